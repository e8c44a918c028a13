theorem dX0_init_0 : decode cX0_init 0 = .ok (.aload_n 0, 1) := by decide +kernel
theorem dX0_init_1 : decode cX0_init 1 = .ok (.invokespecial 3, 3) := by decide +kernel
theorem dX0_init_4 : decode cX0_init 4 = .ok (.aload_n 0, 1) := by decide +kernel
theorem dX0_init_5 : decode cX0_init 5 = .ok (.iconst 0, 1) := by decide +kernel
theorem dX0_init_6 : decode cX0_init 6 = .ok (.putfield 9, 3) := by decide +kernel
theorem dX0_init_9 : decode cX0_init 9 = .ok (.aload_n 0, 1) := by decide +kernel
theorem dX0_init_10 : decode cX0_init 10 = .ok (.iconst 4, 1) := by decide +kernel
theorem dX0_init_11 : decode cX0_init 11 = .ok (.newarray .int, 2) := by decide +kernel
theorem dX0_init_13 : decode cX0_init 13 = .ok (.putfield 15, 3) := by decide +kernel
theorem dX0_init_16 : decode cX0_init 16 = .ok (.aload_n 0, 1) := by decide +kernel
theorem dX0_init_17 : decode cX0_init 17 = .ok (.iconst 4, 1) := by decide +kernel
theorem dX0_init_18 : decode cX0_init 18 = .ok (.newarray .int, 2) := by decide +kernel
theorem dX0_init_20 : decode cX0_init 20 = .ok (.putfield 19, 3) := by decide +kernel
theorem dX0_init_23 : decode cX0_init 23 = .ok (.aload_n 0, 1) := by decide +kernel
theorem dX0_init_24 : decode cX0_init 24 = .ok (.iconst 4, 1) := by decide +kernel
theorem dX0_init_25 : decode cX0_init 25 = .ok (.newarray .int, 2) := by decide +kernel
theorem dX0_init_27 : decode cX0_init 27 = .ok (.putfield 22, 3) := by decide +kernel
theorem dX0_init_30 : decode cX0_init 30 = .ok (.return_, 1) := by decide +kernel
theorem dX0_add_0 : decode cX0_add 0 = .ok (.aload_n 0, 1) := by decide +kernel
theorem dX0_add_1 : decode cX0_add 1 = .ok (.getfield 9, 3) := by decide +kernel
theorem dX0_add_4 : decode cX0_add 4 = .ok (.iconst 4, 1) := by decide +kernel
theorem dX0_add_5 : decode cX0_add 5 = .ok (.if_icmp .lt 6, 3) := by decide +kernel
theorem dX0_add_8 : decode cX0_add 8 = .ok (.bipush (-4), 2) := by decide +kernel
theorem dX0_add_10 : decode cX0_add 10 = .ok (.ireturn, 1) := by decide +kernel
theorem dX0_add_11 : decode cX0_add 11 = .ok (.aload_n 0, 1) := by decide +kernel
theorem dX0_add_12 : decode cX0_add 12 = .ok (.getfield 15, 3) := by decide +kernel
theorem dX0_add_15 : decode cX0_add 15 = .ok (.aload_n 0, 1) := by decide +kernel
theorem dX0_add_16 : decode cX0_add 16 = .ok (.getfield 9, 3) := by decide +kernel
theorem dX0_add_19 : decode cX0_add 19 = .ok (.iload_n 1, 1) := by decide +kernel
theorem dX0_add_20 : decode cX0_add 20 = .ok (.iastore, 1) := by decide +kernel
theorem dX0_add_21 : decode cX0_add 21 = .ok (.aload_n 0, 1) := by decide +kernel
theorem dX0_add_22 : decode cX0_add 22 = .ok (.getfield 19, 3) := by decide +kernel
theorem dX0_add_25 : decode cX0_add 25 = .ok (.aload_n 0, 1) := by decide +kernel
theorem dX0_add_26 : decode cX0_add 26 = .ok (.getfield 9, 3) := by decide +kernel
theorem dX0_add_29 : decode cX0_add 29 = .ok (.iload_n 2, 1) := by decide +kernel
theorem dX0_add_30 : decode cX0_add 30 = .ok (.iastore, 1) := by decide +kernel
theorem dX0_add_31 : decode cX0_add 31 = .ok (.aload_n 0, 1) := by decide +kernel
theorem dX0_add_32 : decode cX0_add 32 = .ok (.getfield 22, 3) := by decide +kernel
theorem dX0_add_35 : decode cX0_add 35 = .ok (.aload_n 0, 1) := by decide +kernel
theorem dX0_add_36 : decode cX0_add 36 = .ok (.getfield 9, 3) := by decide +kernel
theorem dX0_add_39 : decode cX0_add 39 = .ok (.iload_n 3, 1) := by decide +kernel
theorem dX0_add_40 : decode cX0_add 40 = .ok (.iastore, 1) := by decide +kernel
theorem dX0_add_41 : decode cX0_add 41 = .ok (.aload_n 0, 1) := by decide +kernel
theorem dX0_add_42 : decode cX0_add 42 = .ok (.dup, 1) := by decide +kernel
theorem dX0_add_43 : decode cX0_add 43 = .ok (.getfield 9, 3) := by decide +kernel
theorem dX0_add_46 : decode cX0_add 46 = .ok (.dup_x1, 1) := by decide +kernel
theorem dX0_add_47 : decode cX0_add 47 = .ok (.iconst 1, 1) := by decide +kernel
theorem dX0_add_48 : decode cX0_add 48 = .ok (.iadd, 1) := by decide +kernel
theorem dX0_add_49 : decode cX0_add 49 = .ok (.putfield 9, 3) := by decide +kernel
theorem dX0_add_52 : decode cX0_add 52 = .ok (.ireturn, 1) := by decide +kernel
theorem dX0_roomOf_0 : decode cX0_roomOf 0 = .ok (.iload_n 1, 1) := by decide +kernel
theorem dX0_roomOf_1 : decode cX0_roomOf 1 = .ok (.aload_n 0, 1) := by decide +kernel
theorem dX0_roomOf_2 : decode cX0_roomOf 2 = .ok (.getfield 9, 3) := by decide +kernel
theorem dX0_roomOf_5 : decode cX0_roomOf 5 = .ok (.if_icmp .ge 7, 3) := by decide +kernel
theorem dX0_roomOf_8 : decode cX0_roomOf 8 = .ok (.iload_n 1, 1) := by decide +kernel
theorem dX0_roomOf_9 : decode cX0_roomOf 9 = .ok (.goto 4, 3) := by decide +kernel
theorem dX0_roomOf_12 : decode cX0_roomOf 12 = .ok (.iconst 0, 1) := by decide +kernel
theorem dX0_roomOf_13 : decode cX0_roomOf 13 = .ok (.istore_n 3, 1) := by decide +kernel
theorem dX0_roomOf_14 : decode cX0_roomOf 14 = .ok (.iload_n 2, 1) := by decide +kernel
theorem dX0_roomOf_15 : decode cX0_roomOf 15 = .ok (.aload_n 0, 1) := by decide +kernel
theorem dX0_roomOf_16 : decode cX0_roomOf 16 = .ok (.getfield 22, 3) := by decide +kernel
theorem dX0_roomOf_19 : decode cX0_roomOf 19 = .ok (.iload_n 3, 1) := by decide +kernel
theorem dX0_roomOf_20 : decode cX0_roomOf 20 = .ok (.iaload, 1) := by decide +kernel
theorem dX0_roomOf_21 : decode cX0_roomOf 21 = .ok (.isub, 1) := by decide +kernel
theorem dX0_roomOf_22 : decode cX0_roomOf 22 = .ok (.istore 4, 2) := by decide +kernel
theorem dX0_roomOf_24 : decode cX0_roomOf 24 = .ok (.iload 4, 2) := by decide +kernel
theorem dX0_roomOf_26 : decode cX0_roomOf 26 = .ok (.ifCond .lt 25, 3) := by decide +kernel
theorem dX0_roomOf_29 : decode cX0_roomOf 29 = .ok (.aload_n 0, 1) := by decide +kernel
theorem dX0_roomOf_30 : decode cX0_roomOf 30 = .ok (.getfield 19, 3) := by decide +kernel
theorem dX0_roomOf_33 : decode cX0_roomOf 33 = .ok (.iload_n 3, 1) := by decide +kernel
theorem dX0_roomOf_34 : decode cX0_roomOf 34 = .ok (.iaload, 1) := by decide +kernel
theorem dX0_roomOf_35 : decode cX0_roomOf 35 = .ok (.iconst 1, 1) := by decide +kernel
theorem dX0_roomOf_36 : decode cX0_roomOf 36 = .ok (.if_icmp .lt 15, 3) := by decide +kernel
theorem dX0_roomOf_39 : decode cX0_roomOf 39 = .ok (.iload 4, 2) := by decide +kernel
theorem dX0_roomOf_41 : decode cX0_roomOf 41 = .ok (.aload_n 0, 1) := by decide +kernel
theorem dX0_roomOf_42 : decode cX0_roomOf 42 = .ok (.getfield 19, 3) := by decide +kernel
theorem dX0_roomOf_45 : decode cX0_roomOf 45 = .ok (.iload_n 3, 1) := by decide +kernel
theorem dX0_roomOf_46 : decode cX0_roomOf 46 = .ok (.iaload, 1) := by decide +kernel
theorem dX0_roomOf_47 : decode cX0_roomOf 47 = .ok (.irem, 1) := by decide +kernel
theorem dX0_roomOf_48 : decode cX0_roomOf 48 = .ok (.ifCond .eq 5, 3) := by decide +kernel
theorem dX0_roomOf_51 : decode cX0_roomOf 51 = .ok (.iconst 0, 1) := by decide +kernel
theorem dX0_roomOf_52 : decode cX0_roomOf 52 = .ok (.ireturn, 1) := by decide +kernel
theorem dX0_roomOf_53 : decode cX0_roomOf 53 = .ok (.aload_n 0, 1) := by decide +kernel
theorem dX0_roomOf_54 : decode cX0_roomOf 54 = .ok (.getfield 15, 3) := by decide +kernel
theorem dX0_roomOf_57 : decode cX0_roomOf 57 = .ok (.iload_n 3, 1) := by decide +kernel
theorem dX0_roomOf_58 : decode cX0_roomOf 58 = .ok (.iaload, 1) := by decide +kernel
theorem dX0_roomOf_59 : decode cX0_roomOf 59 = .ok (.ireturn, 1) := by decide +kernel
theorem dX0_roomIn_0 : decode cX0_roomIn 0 = .ok (.iconst 0, 1) := by decide +kernel
theorem dX0_roomIn_1 : decode cX0_roomIn 1 = .ok (.istore_n 2, 1) := by decide +kernel
theorem dX0_roomIn_2 : decode cX0_roomIn 2 = .ok (.iconst 0, 1) := by decide +kernel
theorem dX0_roomIn_3 : decode cX0_roomIn 3 = .ok (.istore_n 3, 1) := by decide +kernel
theorem dX0_roomIn_4 : decode cX0_roomIn 4 = .ok (.iload_n 3, 1) := by decide +kernel
theorem dX0_roomIn_5 : decode cX0_roomIn 5 = .ok (.aload_n 0, 1) := by decide +kernel
theorem dX0_roomIn_6 : decode cX0_roomIn 6 = .ok (.getfield 9, 3) := by decide +kernel
theorem dX0_roomIn_9 : decode cX0_roomIn 9 = .ok (.if_icmp .ge 18, 3) := by decide +kernel
theorem dX0_roomIn_12 : decode cX0_roomIn 12 = .ok (.iload_n 2, 1) := by decide +kernel
theorem dX0_roomIn_13 : decode cX0_roomIn 13 = .ok (.aload_n 0, 1) := by decide +kernel
theorem dX0_roomIn_14 : decode cX0_roomIn 14 = .ok (.iload_n 3, 1) := by decide +kernel
theorem dX0_roomIn_15 : decode cX0_roomIn 15 = .ok (.iload_n 1, 1) := by decide +kernel
theorem dX0_roomIn_16 : decode cX0_roomIn 16 = .ok (.invokevirtual 25, 3) := by decide +kernel
theorem dX0_roomIn_19 : decode cX0_roomIn 19 = .ok (.iadd, 1) := by decide +kernel
theorem dX0_roomIn_20 : decode cX0_roomIn 20 = .ok (.istore_n 2, 1) := by decide +kernel
theorem dX0_roomIn_21 : decode cX0_roomIn 21 = .ok (.iinc 3 1, 3) := by decide +kernel
theorem dX0_roomIn_24 : decode cX0_roomIn 24 = .ok (.goto (-20), 3) := by decide +kernel
theorem dX0_roomIn_27 : decode cX0_roomIn 27 = .ok (.iload_n 2, 1) := by decide +kernel
theorem dX0_roomIn_28 : decode cX0_roomIn 28 = .ok (.ireturn, 1) := by decide +kernel
theorem dX1_init_0 : decode cX1_init 0 = .ok (.aload_n 0, 1) := by decide +kernel
theorem dX1_init_1 : decode cX1_init 1 = .ok (.invokespecial 3, 3) := by decide +kernel
theorem dX1_init_4 : decode cX1_init 4 = .ok (.aload_n 0, 1) := by decide +kernel
theorem dX1_init_5 : decode cX1_init 5 = .ok (.bipush 120, 2) := by decide +kernel
theorem dX1_init_7 : decode cX1_init 7 = .ok (.newarray .int, 2) := by decide +kernel
theorem dX1_init_9 : decode cX1_init 9 = .ok (.putfield 9, 3) := by decide +kernel
theorem dX1_init_12 : decode cX1_init 12 = .ok (.aload_n 0, 1) := by decide +kernel
theorem dX1_init_13 : decode cX1_init 13 = .ok (.bipush 120, 2) := by decide +kernel
theorem dX1_init_15 : decode cX1_init 15 = .ok (.newarray .int, 2) := by decide +kernel
theorem dX1_init_17 : decode cX1_init 17 = .ok (.putfield 15, 3) := by decide +kernel
theorem dX1_init_20 : decode cX1_init 20 = .ok (.aload_n 0, 1) := by decide +kernel
theorem dX1_init_21 : decode cX1_init 21 = .ok (.bipush 6, 2) := by decide +kernel
theorem dX1_init_23 : decode cX1_init 23 = .ok (.newarray .int, 2) := by decide +kernel
theorem dX1_init_25 : decode cX1_init 25 = .ok (.putfield 18, 3) := by decide +kernel
theorem dX1_init_28 : decode cX1_init 28 = .ok (.aload_n 0, 1) := by decide +kernel
theorem dX1_init_29 : decode cX1_init 29 = .ok (.bipush 6, 2) := by decide +kernel
theorem dX1_init_31 : decode cX1_init 31 = .ok (.newarray .int, 2) := by decide +kernel
theorem dX1_init_33 : decode cX1_init 33 = .ok (.putfield 21, 3) := by decide +kernel
theorem dX1_init_36 : decode cX1_init 36 = .ok (.aload_n 0, 1) := by decide +kernel
theorem dX1_init_37 : decode cX1_init 37 = .ok (.bipush 6, 2) := by decide +kernel
theorem dX1_init_39 : decode cX1_init 39 = .ok (.newarray .int, 2) := by decide +kernel
theorem dX1_init_41 : decode cX1_init 41 = .ok (.putfield 24, 3) := by decide +kernel
theorem dX1_init_44 : decode cX1_init 44 = .ok (.aload_n 0, 1) := by decide +kernel
theorem dX1_init_45 : decode cX1_init 45 = .ok (.bipush 6, 2) := by decide +kernel
theorem dX1_init_47 : decode cX1_init 47 = .ok (.bipush 120, 2) := by decide +kernel
theorem dX1_init_49 : decode cX1_init 49 = .ok (.multianewarray 27 2, 4) := by decide +kernel
theorem dX1_init_53 : decode cX1_init 53 = .ok (.putfield 29, 3) := by decide +kernel
theorem dX1_init_56 : decode cX1_init 56 = .ok (.aload_n 0, 1) := by decide +kernel
theorem dX1_init_57 : decode cX1_init 57 = .ok (.bipush 6, 2) := by decide +kernel
theorem dX1_init_59 : decode cX1_init 59 = .ok (.newarray .int, 2) := by decide +kernel
theorem dX1_init_61 : decode cX1_init 61 = .ok (.putfield 32, 3) := by decide +kernel
theorem dX1_init_64 : decode cX1_init 64 = .ok (.aload_n 0, 1) := by decide +kernel
theorem dX1_init_65 : decode cX1_init 65 = .ok (.bipush 6, 2) := by decide +kernel
theorem dX1_init_67 : decode cX1_init 67 = .ok (.newarray .int, 2) := by decide +kernel
theorem dX1_init_69 : decode cX1_init 69 = .ok (.putfield 35, 3) := by decide +kernel
theorem dX1_init_72 : decode cX1_init 72 = .ok (.aload_n 0, 1) := by decide +kernel
theorem dX1_init_73 : decode cX1_init 73 = .ok (.bipush 6, 2) := by decide +kernel
theorem dX1_init_75 : decode cX1_init 75 = .ok (.bipush 120, 2) := by decide +kernel
theorem dX1_init_77 : decode cX1_init 77 = .ok (.multianewarray 27 2, 4) := by decide +kernel
theorem dX1_init_81 : decode cX1_init 81 = .ok (.putfield 38, 3) := by decide +kernel
theorem dX1_init_84 : decode cX1_init 84 = .ok (.aload_n 0, 1) := by decide +kernel
theorem dX1_init_85 : decode cX1_init 85 = .ok (.iconst 0, 1) := by decide +kernel
theorem dX1_init_86 : decode cX1_init 86 = .ok (.putfield 41, 3) := by decide +kernel
theorem dX1_init_89 : decode cX1_init 89 = .ok (.aload_n 0, 1) := by decide +kernel
theorem dX1_init_90 : decode cX1_init 90 = .ok (.bipush 24, 2) := by decide +kernel
theorem dX1_init_92 : decode cX1_init 92 = .ok (.newarray .int, 2) := by decide +kernel
theorem dX1_init_94 : decode cX1_init 94 = .ok (.putfield 45, 3) := by decide +kernel
theorem dX1_init_97 : decode cX1_init 97 = .ok (.aload_n 0, 1) := by decide +kernel
theorem dX1_init_98 : decode cX1_init 98 = .ok (.iconst 0, 1) := by decide +kernel
theorem dX1_init_99 : decode cX1_init 99 = .ok (.putfield 48, 3) := by decide +kernel
theorem dX1_init_102 : decode cX1_init 102 = .ok (.aload_n 0, 1) := by decide +kernel
theorem dX1_init_103 : decode cX1_init 103 = .ok (.iconst 0, 1) := by decide +kernel
theorem dX1_init_104 : decode cX1_init 104 = .ok (.putfield 51, 3) := by decide +kernel
theorem dX1_init_107 : decode cX1_init 107 = .ok (.return_, 1) := by decide +kernel
theorem dX1_hearWay_0 : decode cX1_hearWay 0 = .ok (.iconst 0, 1) := by decide +kernel
theorem dX1_hearWay_1 : decode cX1_hearWay 1 = .ok (.istore 4, 2) := by decide +kernel
theorem dX1_hearWay_3 : decode cX1_hearWay 3 = .ok (.iload 4, 2) := by decide +kernel
theorem dX1_hearWay_5 : decode cX1_hearWay 5 = .ok (.aload_n 3, 1) := by decide +kernel
theorem dX1_hearWay_6 : decode cX1_hearWay 6 = .ok (.getfield 54, 3) := by decide +kernel
theorem dX1_hearWay_9 : decode cX1_hearWay 9 = .ok (.if_icmp .ge 37, 3) := by decide +kernel
theorem dX1_hearWay_12 : decode cX1_hearWay 12 = .ok (.aload_n 0, 1) := by decide +kernel
theorem dX1_hearWay_13 : decode cX1_hearWay 13 = .ok (.getfield 9, 3) := by decide +kernel
theorem dX1_hearWay_16 : decode cX1_hearWay 16 = .ok (.iload 4, 2) := by decide +kernel
theorem dX1_hearWay_18 : decode cX1_hearWay 18 = .ok (.aload_n 1, 1) := by decide +kernel
theorem dX1_hearWay_19 : decode cX1_hearWay 19 = .ok (.iload 4, 2) := by decide +kernel
theorem dX1_hearWay_21 : decode cX1_hearWay 21 = .ok (.iload_n 2, 1) := by decide +kernel
theorem dX1_hearWay_22 : decode cX1_hearWay 22 = .ok (.invokevirtual 59, 3) := by decide +kernel
theorem dX1_hearWay_25 : decode cX1_hearWay 25 = .ok (.iastore, 1) := by decide +kernel
theorem dX1_hearWay_26 : decode cX1_hearWay 26 = .ok (.aload_n 0, 1) := by decide +kernel
theorem dX1_hearWay_27 : decode cX1_hearWay 27 = .ok (.getfield 15, 3) := by decide +kernel
theorem dX1_hearWay_30 : decode cX1_hearWay 30 = .ok (.iload 4, 2) := by decide +kernel
theorem dX1_hearWay_32 : decode cX1_hearWay 32 = .ok (.aload_n 1, 1) := by decide +kernel
theorem dX1_hearWay_33 : decode cX1_hearWay 33 = .ok (.iload 4, 2) := by decide +kernel
theorem dX1_hearWay_35 : decode cX1_hearWay 35 = .ok (.iload_n 2, 1) := by decide +kernel
theorem dX1_hearWay_36 : decode cX1_hearWay 36 = .ok (.invokevirtual 65, 3) := by decide +kernel
theorem dX1_hearWay_39 : decode cX1_hearWay 39 = .ok (.iastore, 1) := by decide +kernel
theorem dX1_hearWay_40 : decode cX1_hearWay 40 = .ok (.iinc 4 1, 3) := by decide +kernel
theorem dX1_hearWay_43 : decode cX1_hearWay 43 = .ok (.goto (-40), 3) := by decide +kernel
theorem dX1_hearWay_46 : decode cX1_hearWay 46 = .ok (.iconst 0, 1) := by decide +kernel
theorem dX1_hearWay_47 : decode cX1_hearWay 47 = .ok (.istore 4, 2) := by decide +kernel
theorem dX1_hearWay_49 : decode cX1_hearWay 49 = .ok (.iload 4, 2) := by decide +kernel
theorem dX1_hearWay_51 : decode cX1_hearWay 51 = .ok (.aload_n 3, 1) := by decide +kernel
theorem dX1_hearWay_52 : decode cX1_hearWay 52 = .ok (.getfield 68, 3) := by decide +kernel
theorem dX1_hearWay_55 : decode cX1_hearWay 55 = .ok (.if_icmp .ge 29, 3) := by decide +kernel
theorem dX1_hearWay_58 : decode cX1_hearWay 58 = .ok (.aload_n 0, 1) := by decide +kernel
theorem dX1_hearWay_59 : decode cX1_hearWay 59 = .ok (.getfield 18, 3) := by decide +kernel
theorem dX1_hearWay_62 : decode cX1_hearWay 62 = .ok (.iload 4, 2) := by decide +kernel
theorem dX1_hearWay_64 : decode cX1_hearWay 64 = .ok (.aload_n 1, 1) := by decide +kernel
theorem dX1_hearWay_65 : decode cX1_hearWay 65 = .ok (.iload 4, 2) := by decide +kernel
theorem dX1_hearWay_67 : decode cX1_hearWay 67 = .ok (.aload_n 3, 1) := by decide +kernel
theorem dX1_hearWay_68 : decode cX1_hearWay 68 = .ok (.getfield 71, 3) := by decide +kernel
theorem dX1_hearWay_71 : decode cX1_hearWay 71 = .ok (.iload 4, 2) := by decide +kernel
theorem dX1_hearWay_73 : decode cX1_hearWay 73 = .ok (.iaload, 1) := by decide +kernel
theorem dX1_hearWay_74 : decode cX1_hearWay 74 = .ok (.invokevirtual 74, 3) := by decide +kernel
theorem dX1_hearWay_77 : decode cX1_hearWay 77 = .ok (.iastore, 1) := by decide +kernel
theorem dX1_hearWay_78 : decode cX1_hearWay 78 = .ok (.iinc 4 1, 3) := by decide +kernel
theorem dX1_hearWay_81 : decode cX1_hearWay 81 = .ok (.goto (-32), 3) := by decide +kernel
theorem dX1_hearWay_84 : decode cX1_hearWay 84 = .ok (.return_, 1) := by decide +kernel
theorem dX1_hearSheet_0 : decode cX1_hearSheet 0 = .ok (.aload_n 1, 1) := by decide +kernel
theorem dX1_hearSheet_1 : decode cX1_hearSheet 1 = .ok (.getfield 77, 3) := by decide +kernel
theorem dX1_hearSheet_4 : decode cX1_hearSheet 4 = .ok (.iconst 0, 1) := by decide +kernel
theorem dX1_hearSheet_5 : decode cX1_hearSheet 5 = .ok (.aload_n 0, 1) := by decide +kernel
theorem dX1_hearSheet_6 : decode cX1_hearSheet 6 = .ok (.getfield 9, 3) := by decide +kernel
theorem dX1_hearSheet_9 : decode cX1_hearSheet 9 = .ok (.iconst 0, 1) := by decide +kernel
theorem dX1_hearSheet_10 : decode cX1_hearSheet 10 = .ok (.aload_n 1, 1) := by decide +kernel
theorem dX1_hearSheet_11 : decode cX1_hearSheet 11 = .ok (.getfield 82, 3) := by decide +kernel
theorem dX1_hearSheet_14 : decode cX1_hearSheet 14 = .ok (.invokestatic 85, 3) := by decide +kernel
theorem dX1_hearSheet_17 : decode cX1_hearSheet 17 = .ok (.return_, 1) := by decide +kernel
theorem dX1_run_0 : decode cX1_run 0 = .ok (.aload_n 0, 1) := by decide +kernel
theorem dX1_run_1 : decode cX1_run 1 = .ok (.aload_n 1, 1) := by decide +kernel
theorem dX1_run_2 : decode cX1_run 2 = .ok (.invokevirtual 91, 3) := by decide +kernel
theorem dX1_run_5 : decode cX1_run 5 = .ok (.iconst 0, 1) := by decide +kernel
theorem dX1_run_6 : decode cX1_run 6 = .ok (.istore 5, 2) := by decide +kernel
theorem dX1_run_8 : decode cX1_run 8 = .ok (.iload 5, 2) := by decide +kernel
theorem dX1_run_10 : decode cX1_run 10 = .ok (.aload_n 1, 1) := by decide +kernel
theorem dX1_run_11 : decode cX1_run 11 = .ok (.getfield 54, 3) := by decide +kernel
theorem dX1_run_14 : decode cX1_run 14 = .ok (.if_icmp .ge 45, 3) := by decide +kernel
theorem dX1_run_17 : decode cX1_run 17 = .ok (.aload_n 0, 1) := by decide +kernel
theorem dX1_run_18 : decode cX1_run 18 = .ok (.aload_n 1, 1) := by decide +kernel
theorem dX1_run_19 : decode cX1_run 19 = .ok (.aload 4, 2) := by decide +kernel
theorem dX1_run_21 : decode cX1_run 21 = .ok (.iload 5, 2) := by decide +kernel
theorem dX1_run_23 : decode cX1_run 23 = .ok (.invokevirtual 95, 3) := by decide +kernel
theorem dX1_run_26 : decode cX1_run 26 = .ok (.aload_n 1, 1) := by decide +kernel
theorem dX1_run_27 : decode cX1_run 27 = .ok (.iload 5, 2) := by decide +kernel
theorem dX1_run_29 : decode cX1_run 29 = .ok (.invokevirtual 99, 3) := by decide +kernel
theorem dX1_run_32 : decode cX1_run 32 = .ok (.ifCond .ne 14, 3) := by decide +kernel
theorem dX1_run_35 : decode cX1_run 35 = .ok (.aload_n 0, 1) := by decide +kernel
theorem dX1_run_36 : decode cX1_run 36 = .ok (.aload_n 1, 1) := by decide +kernel
theorem dX1_run_37 : decode cX1_run 37 = .ok (.aload_n 2, 1) := by decide +kernel
theorem dX1_run_38 : decode cX1_run 38 = .ok (.iload_n 3, 1) := by decide +kernel
theorem dX1_run_39 : decode cX1_run 39 = .ok (.aload 4, 2) := by decide +kernel
theorem dX1_run_41 : decode cX1_run 41 = .ok (.iload 5, 2) := by decide +kernel
theorem dX1_run_43 : decode cX1_run 43 = .ok (.invokevirtual 103, 3) := by decide +kernel
theorem dX1_run_46 : decode cX1_run 46 = .ok (.aload_n 0, 1) := by decide +kernel
theorem dX1_run_47 : decode cX1_run 47 = .ok (.aload_n 1, 1) := by decide +kernel
theorem dX1_run_48 : decode cX1_run 48 = .ok (.iload 5, 2) := by decide +kernel
theorem dX1_run_50 : decode cX1_run 50 = .ok (.invokevirtual 107, 3) := by decide +kernel
theorem dX1_run_53 : decode cX1_run 53 = .ok (.iinc 5 1, 3) := by decide +kernel
theorem dX1_run_56 : decode cX1_run 56 = .ok (.goto (-48), 3) := by decide +kernel
theorem dX1_run_59 : decode cX1_run 59 = .ok (.return_, 1) := by decide +kernel
theorem dX1_begin_0 : decode cX1_begin 0 = .ok (.iconst 0, 1) := by decide +kernel
theorem dX1_begin_1 : decode cX1_begin 1 = .ok (.istore_n 2, 1) := by decide +kernel
theorem dX1_begin_2 : decode cX1_begin 2 = .ok (.iload_n 2, 1) := by decide +kernel
theorem dX1_begin_3 : decode cX1_begin 3 = .ok (.aload_n 1, 1) := by decide +kernel
theorem dX1_begin_4 : decode cX1_begin 4 = .ok (.getfield 68, 3) := by decide +kernel
theorem dX1_begin_7 : decode cX1_begin 7 = .ok (.if_icmp .ge 45, 3) := by decide +kernel
theorem dX1_begin_10 : decode cX1_begin 10 = .ok (.aload_n 0, 1) := by decide +kernel
theorem dX1_begin_11 : decode cX1_begin 11 = .ok (.getfield 24, 3) := by decide +kernel
theorem dX1_begin_14 : decode cX1_begin 14 = .ok (.iload_n 2, 1) := by decide +kernel
theorem dX1_begin_15 : decode cX1_begin 15 = .ok (.aload_n 1, 1) := by decide +kernel
theorem dX1_begin_16 : decode cX1_begin 16 = .ok (.getfield 111, 3) := by decide +kernel
theorem dX1_begin_19 : decode cX1_begin 19 = .ok (.iload_n 2, 1) := by decide +kernel
theorem dX1_begin_20 : decode cX1_begin 20 = .ok (.iaload, 1) := by decide +kernel
theorem dX1_begin_21 : decode cX1_begin 21 = .ok (.iastore, 1) := by decide +kernel
theorem dX1_begin_22 : decode cX1_begin 22 = .ok (.aload_n 0, 1) := by decide +kernel
theorem dX1_begin_23 : decode cX1_begin 23 = .ok (.getfield 32, 3) := by decide +kernel
theorem dX1_begin_26 : decode cX1_begin 26 = .ok (.iload_n 2, 1) := by decide +kernel
theorem dX1_begin_27 : decode cX1_begin 27 = .ok (.iconst 0, 1) := by decide +kernel
theorem dX1_begin_28 : decode cX1_begin 28 = .ok (.iastore, 1) := by decide +kernel
theorem dX1_begin_29 : decode cX1_begin 29 = .ok (.aload_n 0, 1) := by decide +kernel
theorem dX1_begin_30 : decode cX1_begin 30 = .ok (.getfield 35, 3) := by decide +kernel
theorem dX1_begin_33 : decode cX1_begin 33 = .ok (.iload_n 2, 1) := by decide +kernel
theorem dX1_begin_34 : decode cX1_begin 34 = .ok (.iconst 0, 1) := by decide +kernel
theorem dX1_begin_35 : decode cX1_begin 35 = .ok (.iastore, 1) := by decide +kernel
theorem dX1_begin_36 : decode cX1_begin 36 = .ok (.aload_n 0, 1) := by decide +kernel
theorem dX1_begin_37 : decode cX1_begin 37 = .ok (.getfield 29, 3) := by decide +kernel
theorem dX1_begin_40 : decode cX1_begin 40 = .ok (.iload_n 2, 1) := by decide +kernel
theorem dX1_begin_41 : decode cX1_begin 41 = .ok (.aaload, 1) := by decide +kernel
theorem dX1_begin_42 : decode cX1_begin 42 = .ok (.iconst 0, 1) := by decide +kernel
theorem dX1_begin_43 : decode cX1_begin 43 = .ok (.invokestatic 112, 3) := by decide +kernel
theorem dX1_begin_46 : decode cX1_begin 46 = .ok (.iinc 2 1, 3) := by decide +kernel
theorem dX1_begin_49 : decode cX1_begin 49 = .ok (.goto (-47), 3) := by decide +kernel
theorem dX1_begin_52 : decode cX1_begin 52 = .ok (.aload_n 0, 1) := by decide +kernel
theorem dX1_begin_53 : decode cX1_begin 53 = .ok (.getfield 45, 3) := by decide +kernel
theorem dX1_begin_56 : decode cX1_begin 56 = .ok (.iconst 0, 1) := by decide +kernel
theorem dX1_begin_57 : decode cX1_begin 57 = .ok (.invokestatic 112, 3) := by decide +kernel
theorem dX1_begin_60 : decode cX1_begin 60 = .ok (.aload_n 0, 1) := by decide +kernel
theorem dX1_begin_61 : decode cX1_begin 61 = .ok (.iconst 0, 1) := by decide +kernel
theorem dX1_begin_62 : decode cX1_begin 62 = .ok (.putfield 41, 3) := by decide +kernel
theorem dX1_begin_65 : decode cX1_begin 65 = .ok (.aload_n 0, 1) := by decide +kernel
theorem dX1_begin_66 : decode cX1_begin 66 = .ok (.iconst 0, 1) := by decide +kernel
theorem dX1_begin_67 : decode cX1_begin 67 = .ok (.putfield 48, 3) := by decide +kernel
theorem dX1_begin_70 : decode cX1_begin 70 = .ok (.aload_n 0, 1) := by decide +kernel
theorem dX1_begin_71 : decode cX1_begin 71 = .ok (.iconst 0, 1) := by decide +kernel
theorem dX1_begin_72 : decode cX1_begin 72 = .ok (.putfield 51, 3) := by decide +kernel
theorem dX1_begin_75 : decode cX1_begin 75 = .ok (.return_, 1) := by decide +kernel
theorem dX1_sendPeople_0 : decode cX1_sendPeople 0 = .ok (.aload_n 0, 1) := by decide +kernel
theorem dX1_sendPeople_1 : decode cX1_sendPeople 1 = .ok (.getfield 41, 3) := by decide +kernel
theorem dX1_sendPeople_4 : decode cX1_sendPeople 4 = .ok (.istore 4, 2) := by decide +kernel
theorem dX1_sendPeople_6 : decode cX1_sendPeople 6 = .ok (.iconst 0, 1) := by decide +kernel
theorem dX1_sendPeople_7 : decode cX1_sendPeople 7 = .ok (.istore 5, 2) := by decide +kernel
theorem dX1_sendPeople_9 : decode cX1_sendPeople 9 = .ok (.iload 5, 2) := by decide +kernel
theorem dX1_sendPeople_11 : decode cX1_sendPeople 11 = .ok (.aload_n 1, 1) := by decide +kernel
theorem dX1_sendPeople_12 : decode cX1_sendPeople 12 = .ok (.getfield 68, 3) := by decide +kernel
theorem dX1_sendPeople_15 : decode cX1_sendPeople 15 = .ok (.if_icmp .ge 96, 3) := by decide +kernel
theorem dX1_sendPeople_18 : decode cX1_sendPeople 18 = .ok (.aload_n 0, 1) := by decide +kernel
theorem dX1_sendPeople_19 : decode cX1_sendPeople 19 = .ok (.getfield 24, 3) := by decide +kernel
theorem dX1_sendPeople_22 : decode cX1_sendPeople 22 = .ok (.iload 5, 2) := by decide +kernel
theorem dX1_sendPeople_24 : decode cX1_sendPeople 24 = .ok (.iaload, 1) := by decide +kernel
theorem dX1_sendPeople_25 : decode cX1_sendPeople 25 = .ok (.ifCond .ne 7, 3) := by decide +kernel
theorem dX1_sendPeople_28 : decode cX1_sendPeople 28 = .ok (.iconst 0, 1) := by decide +kernel
theorem dX1_sendPeople_29 : decode cX1_sendPeople 29 = .ok (.goto 14, 3) := by decide +kernel
theorem dX1_sendPeople_32 : decode cX1_sendPeople 32 = .ok (.aload_n 0, 1) := by decide +kernel
theorem dX1_sendPeople_33 : decode cX1_sendPeople 33 = .ok (.aload_n 1, 1) := by decide +kernel
theorem dX1_sendPeople_34 : decode cX1_sendPeople 34 = .ok (.aload_n 2, 1) := by decide +kernel
theorem dX1_sendPeople_35 : decode cX1_sendPeople 35 = .ok (.iload 5, 2) := by decide +kernel
theorem dX1_sendPeople_37 : decode cX1_sendPeople 37 = .ok (.iload_n 3, 1) := by decide +kernel
theorem dX1_sendPeople_38 : decode cX1_sendPeople 38 = .ok (.iload 4, 2) := by decide +kernel
theorem dX1_sendPeople_40 : decode cX1_sendPeople 40 = .ok (.invokevirtual 118, 3) := by decide +kernel
theorem dX1_sendPeople_43 : decode cX1_sendPeople 43 = .ok (.istore 6, 2) := by decide +kernel
theorem dX1_sendPeople_45 : decode cX1_sendPeople 45 = .ok (.iload_n 3, 1) := by decide +kernel
theorem dX1_sendPeople_46 : decode cX1_sendPeople 46 = .ok (.aload_n 1, 1) := by decide +kernel
theorem dX1_sendPeople_47 : decode cX1_sendPeople 47 = .ok (.getfield 71, 3) := by decide +kernel
theorem dX1_sendPeople_50 : decode cX1_sendPeople 50 = .ok (.iload 5, 2) := by decide +kernel
theorem dX1_sendPeople_52 : decode cX1_sendPeople 52 = .ok (.iaload, 1) := by decide +kernel
theorem dX1_sendPeople_53 : decode cX1_sendPeople 53 = .ok (.iadd, 1) := by decide +kernel
theorem dX1_sendPeople_54 : decode cX1_sendPeople 54 = .ok (.istore 7, 2) := by decide +kernel
theorem dX1_sendPeople_56 : decode cX1_sendPeople 56 = .ok (.aload_n 0, 1) := by decide +kernel
theorem dX1_sendPeople_57 : decode cX1_sendPeople 57 = .ok (.getfield 24, 3) := by decide +kernel
theorem dX1_sendPeople_60 : decode cX1_sendPeople 60 = .ok (.iload 5, 2) := by decide +kernel
theorem dX1_sendPeople_62 : decode cX1_sendPeople 62 = .ok (.dup2, 1) := by decide +kernel
theorem dX1_sendPeople_63 : decode cX1_sendPeople 63 = .ok (.iaload, 1) := by decide +kernel
theorem dX1_sendPeople_64 : decode cX1_sendPeople 64 = .ok (.iload 6, 2) := by decide +kernel
theorem dX1_sendPeople_66 : decode cX1_sendPeople 66 = .ok (.isub, 1) := by decide +kernel
theorem dX1_sendPeople_67 : decode cX1_sendPeople 67 = .ok (.iastore, 1) := by decide +kernel
theorem dX1_sendPeople_68 : decode cX1_sendPeople 68 = .ok (.iload 7, 2) := by decide +kernel
theorem dX1_sendPeople_70 : decode cX1_sendPeople 70 = .ok (.bipush 120, 2) := by decide +kernel
theorem dX1_sendPeople_72 : decode cX1_sendPeople 72 = .ok (.if_icmp .ge 15, 3) := by decide +kernel
theorem dX1_sendPeople_75 : decode cX1_sendPeople 75 = .ok (.aload_n 0, 1) := by decide +kernel
theorem dX1_sendPeople_76 : decode cX1_sendPeople 76 = .ok (.getfield 29, 3) := by decide +kernel
theorem dX1_sendPeople_79 : decode cX1_sendPeople 79 = .ok (.iload 5, 2) := by decide +kernel
theorem dX1_sendPeople_81 : decode cX1_sendPeople 81 = .ok (.aaload, 1) := by decide +kernel
theorem dX1_sendPeople_82 : decode cX1_sendPeople 82 = .ok (.iload 7, 2) := by decide +kernel
theorem dX1_sendPeople_84 : decode cX1_sendPeople 84 = .ok (.iload 6, 2) := by decide +kernel
theorem dX1_sendPeople_86 : decode cX1_sendPeople 86 = .ok (.iastore, 1) := by decide +kernel
theorem dX1_sendPeople_87 : decode cX1_sendPeople 87 = .ok (.aload_n 0, 1) := by decide +kernel
theorem dX1_sendPeople_88 : decode cX1_sendPeople 88 = .ok (.dup, 1) := by decide +kernel
theorem dX1_sendPeople_89 : decode cX1_sendPeople 89 = .ok (.getfield 41, 3) := by decide +kernel
theorem dX1_sendPeople_92 : decode cX1_sendPeople 92 = .ok (.aload_n 0, 1) := by decide +kernel
theorem dX1_sendPeople_93 : decode cX1_sendPeople 93 = .ok (.getfield 29, 3) := by decide +kernel
theorem dX1_sendPeople_96 : decode cX1_sendPeople 96 = .ok (.iload 5, 2) := by decide +kernel
theorem dX1_sendPeople_98 : decode cX1_sendPeople 98 = .ok (.aaload, 1) := by decide +kernel
theorem dX1_sendPeople_99 : decode cX1_sendPeople 99 = .ok (.iload_n 3, 1) := by decide +kernel
theorem dX1_sendPeople_100 : decode cX1_sendPeople 100 = .ok (.iaload, 1) := by decide +kernel
theorem dX1_sendPeople_101 : decode cX1_sendPeople 101 = .ok (.iadd, 1) := by decide +kernel
theorem dX1_sendPeople_102 : decode cX1_sendPeople 102 = .ok (.putfield 41, 3) := by decide +kernel
theorem dX1_sendPeople_105 : decode cX1_sendPeople 105 = .ok (.iinc 5 1, 3) := by decide +kernel
theorem dX1_sendPeople_108 : decode cX1_sendPeople 108 = .ok (.goto (-99), 3) := by decide +kernel
theorem dX1_sendPeople_111 : decode cX1_sendPeople 111 = .ok (.return_, 1) := by decide +kernel
theorem dX1_goingOf_0 : decode cX1_goingOf 0 = .ok (.aload_n 0, 1) := by decide +kernel
theorem dX1_goingOf_1 : decode cX1_goingOf 1 = .ok (.aload_n 1, 1) := by decide +kernel
theorem dX1_goingOf_2 : decode cX1_goingOf 2 = .ok (.iload_n 3, 1) := by decide +kernel
theorem dX1_goingOf_3 : decode cX1_goingOf 3 = .ok (.iload 4, 2) := by decide +kernel
theorem dX1_goingOf_5 : decode cX1_goingOf 5 = .ok (.iload 5, 2) := by decide +kernel
theorem dX1_goingOf_7 : decode cX1_goingOf 7 = .ok (.invokevirtual 122, 3) := by decide +kernel
theorem dX1_goingOf_10 : decode cX1_goingOf 10 = .ok (.aload_n 2, 1) := by decide +kernel
theorem dX1_goingOf_11 : decode cX1_goingOf 11 = .ok (.iconst 0, 1) := by decide +kernel
theorem dX1_goingOf_12 : decode cX1_goingOf 12 = .ok (.aload_n 0, 1) := by decide +kernel
theorem dX1_goingOf_13 : decode cX1_goingOf 13 = .ok (.getfield 21, 3) := by decide +kernel
theorem dX1_goingOf_16 : decode cX1_goingOf 16 = .ok (.invokevirtual 126, 3) := by decide +kernel
theorem dX1_goingOf_19 : decode cX1_goingOf 19 = .ok (.bipush (-99), 2) := by decide +kernel
theorem dX1_goingOf_21 : decode cX1_goingOf 21 = .ok (.sipush 400, 3) := by decide +kernel
theorem dX1_goingOf_24 : decode cX1_goingOf 24 = .ok (.invokestatic 132, 3) := by decide +kernel
theorem dX1_goingOf_27 : decode cX1_goingOf 27 = .ok (.istore 6, 2) := by decide +kernel
theorem dX1_goingOf_29 : decode cX1_goingOf 29 = .ok (.iconst 1, 1) := by decide +kernel
theorem dX1_goingOf_30 : decode cX1_goingOf 30 = .ok (.aload_n 1, 1) := by decide +kernel
theorem dX1_goingOf_31 : decode cX1_goingOf 31 = .ok (.getfield 136, 3) := by decide +kernel
theorem dX1_goingOf_34 : decode cX1_goingOf 34 = .ok (.iload_n 3, 1) := by decide +kernel
theorem dX1_goingOf_35 : decode cX1_goingOf 35 = .ok (.iaload, 1) := by decide +kernel
theorem dX1_goingOf_36 : decode cX1_goingOf 36 = .ok (.invokestatic 139, 3) := by decide +kernel
theorem dX1_goingOf_39 : decode cX1_goingOf 39 = .ok (.istore 7, 2) := by decide +kernel
theorem dX1_goingOf_41 : decode cX1_goingOf 41 = .ok (.aload_n 0, 1) := by decide +kernel
theorem dX1_goingOf_42 : decode cX1_goingOf 42 = .ok (.getfield 24, 3) := by decide +kernel
theorem dX1_goingOf_45 : decode cX1_goingOf 45 = .ok (.iload_n 3, 1) := by decide +kernel
theorem dX1_goingOf_46 : decode cX1_goingOf 46 = .ok (.iaload, 1) := by decide +kernel
theorem dX1_goingOf_47 : decode cX1_goingOf 47 = .ok (.iload 7, 2) := by decide +kernel
theorem dX1_goingOf_49 : decode cX1_goingOf 49 = .ok (.idiv, 1) := by decide +kernel
theorem dX1_goingOf_50 : decode cX1_goingOf 50 = .ok (.iload 6, 2) := by decide +kernel
theorem dX1_goingOf_52 : decode cX1_goingOf 52 = .ok (.iadd, 1) := by decide +kernel
theorem dX1_goingOf_53 : decode cX1_goingOf 53 = .ok (.iconst 0, 1) := by decide +kernel
theorem dX1_goingOf_54 : decode cX1_goingOf 54 = .ok (.aload_n 0, 1) := by decide +kernel
theorem dX1_goingOf_55 : decode cX1_goingOf 55 = .ok (.getfield 24, 3) := by decide +kernel
theorem dX1_goingOf_58 : decode cX1_goingOf 58 = .ok (.iload_n 3, 1) := by decide +kernel
theorem dX1_goingOf_59 : decode cX1_goingOf 59 = .ok (.iaload, 1) := by decide +kernel
theorem dX1_goingOf_60 : decode cX1_goingOf 60 = .ok (.invokestatic 132, 3) := by decide +kernel
theorem dX1_goingOf_63 : decode cX1_goingOf 63 = .ok (.ireturn, 1) := by decide +kernel
theorem dX1_setNames_0 : decode cX1_setNames 0 = .ok (.aload_n 0, 1) := by decide +kernel
theorem dX1_setNames_1 : decode cX1_setNames 1 = .ok (.getfield 21, 3) := by decide +kernel
theorem dX1_setNames_4 : decode cX1_setNames 4 = .ok (.iconst 0, 1) := by decide +kernel
theorem dX1_setNames_5 : decode cX1_setNames 5 = .ok (.aload_n 0, 1) := by decide +kernel
theorem dX1_setNames_6 : decode cX1_setNames 6 = .ok (.getfield 24, 3) := by decide +kernel
theorem dX1_setNames_9 : decode cX1_setNames 9 = .ok (.iload_n 2, 1) := by decide +kernel
theorem dX1_setNames_10 : decode cX1_setNames 10 = .ok (.iaload, 1) := by decide +kernel
theorem dX1_setNames_11 : decode cX1_setNames 11 = .ok (.iastore, 1) := by decide +kernel
theorem dX1_setNames_12 : decode cX1_setNames 12 = .ok (.aload_n 0, 1) := by decide +kernel
theorem dX1_setNames_13 : decode cX1_setNames 13 = .ok (.getfield 21, 3) := by decide +kernel
theorem dX1_setNames_16 : decode cX1_setNames 16 = .ok (.iconst 1, 1) := by decide +kernel
theorem dX1_setNames_17 : decode cX1_setNames 17 = .ok (.iload 4, 2) := by decide +kernel
theorem dX1_setNames_19 : decode cX1_setNames 19 = .ok (.iastore, 1) := by decide +kernel
theorem dX1_setNames_20 : decode cX1_setNames 20 = .ok (.aload_n 0, 1) := by decide +kernel
theorem dX1_setNames_21 : decode cX1_setNames 21 = .ok (.getfield 21, 3) := by decide +kernel
theorem dX1_setNames_24 : decode cX1_setNames 24 = .ok (.iconst 2, 1) := by decide +kernel
theorem dX1_setNames_25 : decode cX1_setNames 25 = .ok (.aload_n 1, 1) := by decide +kernel
theorem dX1_setNames_26 : decode cX1_setNames 26 = .ok (.getfield 54, 3) := by decide +kernel
theorem dX1_setNames_29 : decode cX1_setNames 29 = .ok (.iload_n 3, 1) := by decide +kernel
theorem dX1_setNames_30 : decode cX1_setNames 30 = .ok (.isub, 1) := by decide +kernel
theorem dX1_setNames_31 : decode cX1_setNames 31 = .ok (.iastore, 1) := by decide +kernel
theorem dX1_setNames_32 : decode cX1_setNames 32 = .ok (.aload_n 0, 1) := by decide +kernel
theorem dX1_setNames_33 : decode cX1_setNames 33 = .ok (.getfield 21, 3) := by decide +kernel
theorem dX1_setNames_36 : decode cX1_setNames 36 = .ok (.iconst 3, 1) := by decide +kernel
theorem dX1_setNames_37 : decode cX1_setNames 37 = .ok (.aload_n 0, 1) := by decide +kernel
theorem dX1_setNames_38 : decode cX1_setNames 38 = .ok (.getfield 15, 3) := by decide +kernel
theorem dX1_setNames_41 : decode cX1_setNames 41 = .ok (.iload_n 3, 1) := by decide +kernel
theorem dX1_setNames_42 : decode cX1_setNames 42 = .ok (.iaload, 1) := by decide +kernel
theorem dX1_setNames_43 : decode cX1_setNames 43 = .ok (.iastore, 1) := by decide +kernel
theorem dX1_setNames_44 : decode cX1_setNames 44 = .ok (.aload_n 0, 1) := by decide +kernel
theorem dX1_setNames_45 : decode cX1_setNames 45 = .ok (.getfield 21, 3) := by decide +kernel
theorem dX1_setNames_48 : decode cX1_setNames 48 = .ok (.iconst 4, 1) := by decide +kernel
theorem dX1_setNames_49 : decode cX1_setNames 49 = .ok (.aload_n 1, 1) := by decide +kernel
theorem dX1_setNames_50 : decode cX1_setNames 50 = .ok (.getfield 144, 3) := by decide +kernel
theorem dX1_setNames_53 : decode cX1_setNames 53 = .ok (.iload_n 2, 1) := by decide +kernel
theorem dX1_setNames_54 : decode cX1_setNames 54 = .ok (.iaload, 1) := by decide +kernel
theorem dX1_setNames_55 : decode cX1_setNames 55 = .ok (.aload_n 0, 1) := by decide +kernel
theorem dX1_setNames_56 : decode cX1_setNames 56 = .ok (.getfield 9, 3) := by decide +kernel
theorem dX1_setNames_59 : decode cX1_setNames 59 = .ok (.iload_n 3, 1) := by decide +kernel
theorem dX1_setNames_60 : decode cX1_setNames 60 = .ok (.iaload, 1) := by decide +kernel
theorem dX1_setNames_61 : decode cX1_setNames 61 = .ok (.imul, 1) := by decide +kernel
theorem dX1_setNames_62 : decode cX1_setNames 62 = .ok (.bipush 10, 2) := by decide +kernel
theorem dX1_setNames_64 : decode cX1_setNames 64 = .ok (.idiv, 1) := by decide +kernel
theorem dX1_setNames_65 : decode cX1_setNames 65 = .ok (.iastore, 1) := by decide +kernel
theorem dX1_setNames_66 : decode cX1_setNames 66 = .ok (.aload_n 0, 1) := by decide +kernel
theorem dX1_setNames_67 : decode cX1_setNames 67 = .ok (.getfield 21, 3) := by decide +kernel
theorem dX1_setNames_70 : decode cX1_setNames 70 = .ok (.iconst 5, 1) := by decide +kernel
theorem dX1_setNames_71 : decode cX1_setNames 71 = .ok (.aload_n 1, 1) := by decide +kernel
theorem dX1_setNames_72 : decode cX1_setNames 72 = .ok (.getfield 147, 3) := by decide +kernel
theorem dX1_setNames_75 : decode cX1_setNames 75 = .ok (.iload_n 3, 1) := by decide +kernel
theorem dX1_setNames_76 : decode cX1_setNames 76 = .ok (.iaload, 1) := by decide +kernel
theorem dX1_setNames_77 : decode cX1_setNames 77 = .ok (.iastore, 1) := by decide +kernel
theorem dX1_setNames_78 : decode cX1_setNames 78 = .ok (.return_, 1) := by decide +kernel
theorem dX1_sendCars_0 : decode cX1_sendCars 0 = .ok (.iconst 0, 1) := by decide +kernel
theorem dX1_sendCars_1 : decode cX1_sendCars 1 = .ok (.istore 6, 2) := by decide +kernel
theorem dX1_sendCars_3 : decode cX1_sendCars 3 = .ok (.iload 6, 2) := by decide +kernel
theorem dX1_sendCars_5 : decode cX1_sendCars 5 = .ok (.iload_n 3, 1) := by decide +kernel
theorem dX1_sendCars_6 : decode cX1_sendCars 6 = .ok (.if_icmp .ge 88, 3) := by decide +kernel
theorem dX1_sendCars_9 : decode cX1_sendCars 9 = .ok (.aload_n 0, 1) := by decide +kernel
theorem dX1_sendCars_10 : decode cX1_sendCars 10 = .ok (.getfield 41, 3) := by decide +kernel
theorem dX1_sendCars_13 : decode cX1_sendCars 13 = .ok (.ifCond .le 81, 3) := by decide +kernel
theorem dX1_sendCars_16 : decode cX1_sendCars 16 = .ok (.aload_n 2, 1) := by decide +kernel
theorem dX1_sendCars_17 : decode cX1_sendCars 17 = .ok (.iload 6, 2) := by decide +kernel
theorem dX1_sendCars_19 : decode cX1_sendCars 19 = .ok (.iload 5, 2) := by decide +kernel
theorem dX1_sendCars_21 : decode cX1_sendCars 21 = .ok (.invokevirtual 150, 3) := by decide +kernel
theorem dX1_sendCars_24 : decode cX1_sendCars 24 = .ok (.istore 7, 2) := by decide +kernel
theorem dX1_sendCars_26 : decode cX1_sendCars 26 = .ok (.iload 7, 2) := by decide +kernel
theorem dX1_sendCars_28 : decode cX1_sendCars 28 = .ok (.ifCond .ne 6, 3) := by decide +kernel
theorem dX1_sendCars_31 : decode cX1_sendCars 31 = .ok (.goto 57, 3) := by decide +kernel
theorem dX1_sendCars_34 : decode cX1_sendCars 34 = .ok (.aload_n 0, 1) := by decide +kernel
theorem dX1_sendCars_35 : decode cX1_sendCars 35 = .ok (.aload_n 1, 1) := by decide +kernel
theorem dX1_sendCars_36 : decode cX1_sendCars 36 = .ok (.iconst 0, 1) := by decide +kernel
theorem dX1_sendCars_37 : decode cX1_sendCars 37 = .ok (.iload 5, 2) := by decide +kernel
theorem dX1_sendCars_39 : decode cX1_sendCars 39 = .ok (.aload_n 0, 1) := by decide +kernel
theorem dX1_sendCars_40 : decode cX1_sendCars 40 = .ok (.getfield 41, 3) := by decide +kernel
theorem dX1_sendCars_43 : decode cX1_sendCars 43 = .ok (.invokevirtual 122, 3) := by decide +kernel
theorem dX1_sendCars_46 : decode cX1_sendCars 46 = .ok (.aload 4, 2) := by decide +kernel
theorem dX1_sendCars_48 : decode cX1_sendCars 48 = .ok (.iconst 1, 1) := by decide +kernel
theorem dX1_sendCars_49 : decode cX1_sendCars 49 = .ok (.aload_n 0, 1) := by decide +kernel
theorem dX1_sendCars_50 : decode cX1_sendCars 50 = .ok (.getfield 21, 3) := by decide +kernel
theorem dX1_sendCars_53 : decode cX1_sendCars 53 = .ok (.invokevirtual 126, 3) := by decide +kernel
theorem dX1_sendCars_56 : decode cX1_sendCars 56 = .ok (.iconst 0, 1) := by decide +kernel
theorem dX1_sendCars_57 : decode cX1_sendCars 57 = .ok (.bipush 60, 2) := by decide +kernel
theorem dX1_sendCars_59 : decode cX1_sendCars 59 = .ok (.invokestatic 132, 3) := by decide +kernel
theorem dX1_sendCars_62 : decode cX1_sendCars 62 = .ok (.istore 8, 2) := by decide +kernel
theorem dX1_sendCars_64 : decode cX1_sendCars 64 = .ok (.aload_n 0, 1) := by decide +kernel
theorem dX1_sendCars_65 : decode cX1_sendCars 65 = .ok (.iload 6, 2) := by decide +kernel
theorem dX1_sendCars_67 : decode cX1_sendCars 67 = .ok (.iload 7, 2) := by decide +kernel
theorem dX1_sendCars_69 : decode cX1_sendCars 69 = .ok (.iload 8, 2) := by decide +kernel
theorem dX1_sendCars_71 : decode cX1_sendCars 71 = .ok (.isub, 1) := by decide +kernel
theorem dX1_sendCars_72 : decode cX1_sendCars 72 = .ok (.aload_n 0, 1) := by decide +kernel
theorem dX1_sendCars_73 : decode cX1_sendCars 73 = .ok (.getfield 41, 3) := by decide +kernel
theorem dX1_sendCars_76 : decode cX1_sendCars 76 = .ok (.invokestatic 155, 3) := by decide +kernel
theorem dX1_sendCars_79 : decode cX1_sendCars 79 = .ok (.aload_n 1, 1) := by decide +kernel
theorem dX1_sendCars_80 : decode cX1_sendCars 80 = .ok (.getfield 68, 3) := by decide +kernel
theorem dX1_sendCars_83 : decode cX1_sendCars 83 = .ok (.iload 5, 2) := by decide +kernel
theorem dX1_sendCars_85 : decode cX1_sendCars 85 = .ok (.invokevirtual 158, 3) := by decide +kernel
theorem dX1_sendCars_88 : decode cX1_sendCars 88 = .ok (.iinc 6 1, 3) := by decide +kernel
theorem dX1_sendCars_91 : decode cX1_sendCars 91 = .ok (.goto (-88), 3) := by decide +kernel
theorem dX1_sendCars_94 : decode cX1_sendCars 94 = .ok (.return_, 1) := by decide +kernel
theorem dX1_board_0 : decode cX1_board 0 = .ok (.iload_n 2, 1) := by decide +kernel
theorem dX1_board_1 : decode cX1_board 1 = .ok (.istore 5, 2) := by decide +kernel
theorem dX1_board_3 : decode cX1_board 3 = .ok (.iconst 0, 1) := by decide +kernel
theorem dX1_board_4 : decode cX1_board 4 = .ok (.istore 6, 2) := by decide +kernel
theorem dX1_board_6 : decode cX1_board 6 = .ok (.iload 6, 2) := by decide +kernel
theorem dX1_board_8 : decode cX1_board 8 = .ok (.bipush 60, 2) := by decide +kernel
theorem dX1_board_10 : decode cX1_board 10 = .ok (.if_icmp .ge 113, 3) := by decide +kernel
theorem dX1_board_13 : decode cX1_board 13 = .ok (.iload 5, 2) := by decide +kernel
theorem dX1_board_15 : decode cX1_board 15 = .ok (.ifCond .le 108, 3) := by decide +kernel
theorem dX1_board_18 : decode cX1_board 18 = .ok (.aload_n 0, 1) := by decide +kernel
theorem dX1_board_19 : decode cX1_board 19 = .ok (.iload_n 3, 1) := by decide +kernel
theorem dX1_board_20 : decode cX1_board 20 = .ok (.iload 4, 2) := by decide +kernel
theorem dX1_board_22 : decode cX1_board 22 = .ok (.invokevirtual 162, 3) := by decide +kernel
theorem dX1_board_25 : decode cX1_board 25 = .ok (.istore 7, 2) := by decide +kernel
theorem dX1_board_27 : decode cX1_board 27 = .ok (.iload 7, 2) := by decide +kernel
theorem dX1_board_29 : decode cX1_board 29 = .ok (.iconst (-1), 1) := by decide +kernel
theorem dX1_board_30 : decode cX1_board 30 = .ok (.if_icmp .ne 4, 3) := by decide +kernel
theorem dX1_board_33 : decode cX1_board 33 = .ok (.return_, 1) := by decide +kernel
theorem dX1_board_34 : decode cX1_board 34 = .ok (.iload 5, 2) := by decide +kernel
theorem dX1_board_36 : decode cX1_board 36 = .ok (.aload_n 0, 1) := by decide +kernel
theorem dX1_board_37 : decode cX1_board 37 = .ok (.getfield 29, 3) := by decide +kernel
theorem dX1_board_40 : decode cX1_board 40 = .ok (.iload 7, 2) := by decide +kernel
theorem dX1_board_42 : decode cX1_board 42 = .ok (.aaload, 1) := by decide +kernel
theorem dX1_board_43 : decode cX1_board 43 = .ok (.aload_n 0, 1) := by decide +kernel
theorem dX1_board_44 : decode cX1_board 44 = .ok (.getfield 32, 3) := by decide +kernel
theorem dX1_board_47 : decode cX1_board 47 = .ok (.iload 7, 2) := by decide +kernel
theorem dX1_board_49 : decode cX1_board 49 = .ok (.iaload, 1) := by decide +kernel
theorem dX1_board_50 : decode cX1_board 50 = .ok (.iaload, 1) := by decide +kernel
theorem dX1_board_51 : decode cX1_board 51 = .ok (.invokestatic 155, 3) := by decide +kernel
theorem dX1_board_54 : decode cX1_board 54 = .ok (.istore 8, 2) := by decide +kernel
theorem dX1_board_56 : decode cX1_board 56 = .ok (.aload_n 0, 1) := by decide +kernel
theorem dX1_board_57 : decode cX1_board 57 = .ok (.getfield 29, 3) := by decide +kernel
theorem dX1_board_60 : decode cX1_board 60 = .ok (.iload 7, 2) := by decide +kernel
theorem dX1_board_62 : decode cX1_board 62 = .ok (.aaload, 1) := by decide +kernel
theorem dX1_board_63 : decode cX1_board 63 = .ok (.aload_n 0, 1) := by decide +kernel
theorem dX1_board_64 : decode cX1_board 64 = .ok (.getfield 32, 3) := by decide +kernel
theorem dX1_board_67 : decode cX1_board 67 = .ok (.iload 7, 2) := by decide +kernel
theorem dX1_board_69 : decode cX1_board 69 = .ok (.iaload, 1) := by decide +kernel
theorem dX1_board_70 : decode cX1_board 70 = .ok (.dup2, 1) := by decide +kernel
theorem dX1_board_71 : decode cX1_board 71 = .ok (.iaload, 1) := by decide +kernel
theorem dX1_board_72 : decode cX1_board 72 = .ok (.iload 8, 2) := by decide +kernel
theorem dX1_board_74 : decode cX1_board 74 = .ok (.isub, 1) := by decide +kernel
theorem dX1_board_75 : decode cX1_board 75 = .ok (.iastore, 1) := by decide +kernel
theorem dX1_board_76 : decode cX1_board 76 = .ok (.aload_n 0, 1) := by decide +kernel
theorem dX1_board_77 : decode cX1_board 77 = .ok (.getfield 35, 3) := by decide +kernel
theorem dX1_board_80 : decode cX1_board 80 = .ok (.iload 7, 2) := by decide +kernel
theorem dX1_board_82 : decode cX1_board 82 = .ok (.dup2, 1) := by decide +kernel
theorem dX1_board_83 : decode cX1_board 83 = .ok (.iaload, 1) := by decide +kernel
theorem dX1_board_84 : decode cX1_board 84 = .ok (.iload 8, 2) := by decide +kernel
theorem dX1_board_86 : decode cX1_board 86 = .ok (.iadd, 1) := by decide +kernel
theorem dX1_board_87 : decode cX1_board 87 = .ok (.iastore, 1) := by decide +kernel
theorem dX1_board_88 : decode cX1_board 88 = .ok (.aload_n 0, 1) := by decide +kernel
theorem dX1_board_89 : decode cX1_board 89 = .ok (.getfield 45, 3) := by decide +kernel
theorem dX1_board_92 : decode cX1_board 92 = .ok (.iload_n 1, 1) := by decide +kernel
theorem dX1_board_93 : decode cX1_board 93 = .ok (.dup2, 1) := by decide +kernel
theorem dX1_board_94 : decode cX1_board 94 = .ok (.iaload, 1) := by decide +kernel
theorem dX1_board_95 : decode cX1_board 95 = .ok (.iload 8, 2) := by decide +kernel
theorem dX1_board_97 : decode cX1_board 97 = .ok (.iadd, 1) := by decide +kernel
theorem dX1_board_98 : decode cX1_board 98 = .ok (.iastore, 1) := by decide +kernel
theorem dX1_board_99 : decode cX1_board 99 = .ok (.aload_n 0, 1) := by decide +kernel
theorem dX1_board_100 : decode cX1_board 100 = .ok (.dup, 1) := by decide +kernel
theorem dX1_board_101 : decode cX1_board 101 = .ok (.getfield 41, 3) := by decide +kernel
theorem dX1_board_104 : decode cX1_board 104 = .ok (.iload 8, 2) := by decide +kernel
theorem dX1_board_106 : decode cX1_board 106 = .ok (.isub, 1) := by decide +kernel
theorem dX1_board_107 : decode cX1_board 107 = .ok (.putfield 41, 3) := by decide +kernel
theorem dX1_board_110 : decode cX1_board 110 = .ok (.iload 5, 2) := by decide +kernel
theorem dX1_board_112 : decode cX1_board 112 = .ok (.iload 8, 2) := by decide +kernel
theorem dX1_board_114 : decode cX1_board 114 = .ok (.isub, 1) := by decide +kernel
theorem dX1_board_115 : decode cX1_board 115 = .ok (.istore 5, 2) := by decide +kernel
theorem dX1_board_117 : decode cX1_board 117 = .ok (.iinc 6 1, 3) := by decide +kernel
theorem dX1_board_120 : decode cX1_board 120 = .ok (.goto (-114), 3) := by decide +kernel
theorem dX1_board_123 : decode cX1_board 123 = .ok (.return_, 1) := by decide +kernel
theorem dX1_firstOnes_0 : decode cX1_firstOnes 0 = .ok (.iconst (-1), 1) := by decide +kernel
theorem dX1_firstOnes_1 : decode cX1_firstOnes 1 = .ok (.istore_n 3, 1) := by decide +kernel
theorem dX1_firstOnes_2 : decode cX1_firstOnes 2 = .ok (.iconst 0, 1) := by decide +kernel
theorem dX1_firstOnes_3 : decode cX1_firstOnes 3 = .ok (.istore 4, 2) := by decide +kernel
theorem dX1_firstOnes_5 : decode cX1_firstOnes 5 = .ok (.iload 4, 2) := by decide +kernel
theorem dX1_firstOnes_7 : decode cX1_firstOnes 7 = .ok (.iload_n 1, 1) := by decide +kernel
theorem dX1_firstOnes_8 : decode cX1_firstOnes 8 = .ok (.if_icmp .ge 81, 3) := by decide +kernel
theorem dX1_firstOnes_11 : decode cX1_firstOnes 11 = .ok (.aload_n 0, 1) := by decide +kernel
theorem dX1_firstOnes_12 : decode cX1_firstOnes 12 = .ok (.getfield 32, 3) := by decide +kernel
theorem dX1_firstOnes_15 : decode cX1_firstOnes 15 = .ok (.iload 4, 2) := by decide +kernel
theorem dX1_firstOnes_17 : decode cX1_firstOnes 17 = .ok (.iaload, 1) := by decide +kernel
theorem dX1_firstOnes_18 : decode cX1_firstOnes 18 = .ok (.iload_n 2, 1) := by decide +kernel
theorem dX1_firstOnes_19 : decode cX1_firstOnes 19 = .ok (.if_icmp .gt 35, 3) := by decide +kernel
theorem dX1_firstOnes_22 : decode cX1_firstOnes 22 = .ok (.aload_n 0, 1) := by decide +kernel
theorem dX1_firstOnes_23 : decode cX1_firstOnes 23 = .ok (.getfield 29, 3) := by decide +kernel
theorem dX1_firstOnes_26 : decode cX1_firstOnes 26 = .ok (.iload 4, 2) := by decide +kernel
theorem dX1_firstOnes_28 : decode cX1_firstOnes 28 = .ok (.aaload, 1) := by decide +kernel
theorem dX1_firstOnes_29 : decode cX1_firstOnes 29 = .ok (.aload_n 0, 1) := by decide +kernel
theorem dX1_firstOnes_30 : decode cX1_firstOnes 30 = .ok (.getfield 32, 3) := by decide +kernel
theorem dX1_firstOnes_33 : decode cX1_firstOnes 33 = .ok (.iload 4, 2) := by decide +kernel
theorem dX1_firstOnes_35 : decode cX1_firstOnes 35 = .ok (.iaload, 1) := by decide +kernel
theorem dX1_firstOnes_36 : decode cX1_firstOnes 36 = .ok (.iaload, 1) := by decide +kernel
theorem dX1_firstOnes_37 : decode cX1_firstOnes 37 = .ok (.ifCond .ne 17, 3) := by decide +kernel
theorem dX1_firstOnes_40 : decode cX1_firstOnes 40 = .ok (.aload_n 0, 1) := by decide +kernel
theorem dX1_firstOnes_41 : decode cX1_firstOnes 41 = .ok (.getfield 32, 3) := by decide +kernel
theorem dX1_firstOnes_44 : decode cX1_firstOnes 44 = .ok (.iload 4, 2) := by decide +kernel
theorem dX1_firstOnes_46 : decode cX1_firstOnes 46 = .ok (.dup2, 1) := by decide +kernel
theorem dX1_firstOnes_47 : decode cX1_firstOnes 47 = .ok (.iaload, 1) := by decide +kernel
theorem dX1_firstOnes_48 : decode cX1_firstOnes 48 = .ok (.iconst 1, 1) := by decide +kernel
theorem dX1_firstOnes_49 : decode cX1_firstOnes 49 = .ok (.iadd, 1) := by decide +kernel
theorem dX1_firstOnes_50 : decode cX1_firstOnes 50 = .ok (.iastore, 1) := by decide +kernel
theorem dX1_firstOnes_51 : decode cX1_firstOnes 51 = .ok (.goto (-40), 3) := by decide +kernel
theorem dX1_firstOnes_54 : decode cX1_firstOnes 54 = .ok (.aload_n 0, 1) := by decide +kernel
theorem dX1_firstOnes_55 : decode cX1_firstOnes 55 = .ok (.getfield 32, 3) := by decide +kernel
theorem dX1_firstOnes_58 : decode cX1_firstOnes 58 = .ok (.iload 4, 2) := by decide +kernel
theorem dX1_firstOnes_60 : decode cX1_firstOnes 60 = .ok (.iaload, 1) := by decide +kernel
theorem dX1_firstOnes_61 : decode cX1_firstOnes 61 = .ok (.iload_n 2, 1) := by decide +kernel
theorem dX1_firstOnes_62 : decode cX1_firstOnes 62 = .ok (.if_icmp .gt 21, 3) := by decide +kernel
theorem dX1_firstOnes_65 : decode cX1_firstOnes 65 = .ok (.iload_n 3, 1) := by decide +kernel
theorem dX1_firstOnes_66 : decode cX1_firstOnes 66 = .ok (.iconst (-1), 1) := by decide +kernel
theorem dX1_firstOnes_67 : decode cX1_firstOnes 67 = .ok (.if_icmp .eq 13, 3) := by decide +kernel
theorem dX1_firstOnes_70 : decode cX1_firstOnes 70 = .ok (.aload_n 0, 1) := by decide +kernel
theorem dX1_firstOnes_71 : decode cX1_firstOnes 71 = .ok (.iload 4, 2) := by decide +kernel
theorem dX1_firstOnes_73 : decode cX1_firstOnes 73 = .ok (.iload_n 3, 1) := by decide +kernel
theorem dX1_firstOnes_74 : decode cX1_firstOnes 74 = .ok (.invokevirtual 165, 3) := by decide +kernel
theorem dX1_firstOnes_77 : decode cX1_firstOnes 77 = .ok (.ifCond .eq 6, 3) := by decide +kernel
theorem dX1_firstOnes_80 : decode cX1_firstOnes 80 = .ok (.iload 4, 2) := by decide +kernel
theorem dX1_firstOnes_82 : decode cX1_firstOnes 82 = .ok (.istore_n 3, 1) := by decide +kernel
theorem dX1_firstOnes_83 : decode cX1_firstOnes 83 = .ok (.iinc 4 1, 3) := by decide +kernel
theorem dX1_firstOnes_86 : decode cX1_firstOnes 86 = .ok (.goto (-81), 3) := by decide +kernel
theorem dX1_firstOnes_89 : decode cX1_firstOnes 89 = .ok (.iload_n 3, 1) := by decide +kernel
theorem dX1_firstOnes_90 : decode cX1_firstOnes 90 = .ok (.ireturn, 1) := by decide +kernel
theorem dX1_isAhead_0 : decode cX1_isAhead 0 = .ok (.aload_n 0, 1) := by decide +kernel
theorem dX1_isAhead_1 : decode cX1_isAhead 1 = .ok (.getfield 18, 3) := by decide +kernel
theorem dX1_isAhead_4 : decode cX1_isAhead 4 = .ok (.iload_n 1, 1) := by decide +kernel
theorem dX1_isAhead_5 : decode cX1_isAhead 5 = .ok (.iaload, 1) := by decide +kernel
theorem dX1_isAhead_6 : decode cX1_isAhead 6 = .ok (.aload_n 0, 1) := by decide +kernel
theorem dX1_isAhead_7 : decode cX1_isAhead 7 = .ok (.getfield 18, 3) := by decide +kernel
theorem dX1_isAhead_10 : decode cX1_isAhead 10 = .ok (.iload_n 2, 1) := by decide +kernel
theorem dX1_isAhead_11 : decode cX1_isAhead 11 = .ok (.iaload, 1) := by decide +kernel
theorem dX1_isAhead_12 : decode cX1_isAhead 12 = .ok (.if_icmp .eq 24, 3) := by decide +kernel
theorem dX1_isAhead_15 : decode cX1_isAhead 15 = .ok (.aload_n 0, 1) := by decide +kernel
theorem dX1_isAhead_16 : decode cX1_isAhead 16 = .ok (.getfield 18, 3) := by decide +kernel
theorem dX1_isAhead_19 : decode cX1_isAhead 19 = .ok (.iload_n 1, 1) := by decide +kernel
theorem dX1_isAhead_20 : decode cX1_isAhead 20 = .ok (.iaload, 1) := by decide +kernel
theorem dX1_isAhead_21 : decode cX1_isAhead 21 = .ok (.aload_n 0, 1) := by decide +kernel
theorem dX1_isAhead_22 : decode cX1_isAhead 22 = .ok (.getfield 18, 3) := by decide +kernel
theorem dX1_isAhead_25 : decode cX1_isAhead 25 = .ok (.iload_n 2, 1) := by decide +kernel
theorem dX1_isAhead_26 : decode cX1_isAhead 26 = .ok (.iaload, 1) := by decide +kernel
theorem dX1_isAhead_27 : decode cX1_isAhead 27 = .ok (.if_icmp .ge 7, 3) := by decide +kernel
theorem dX1_isAhead_30 : decode cX1_isAhead 30 = .ok (.iconst 1, 1) := by decide +kernel
theorem dX1_isAhead_31 : decode cX1_isAhead 31 = .ok (.goto 4, 3) := by decide +kernel
theorem dX1_isAhead_34 : decode cX1_isAhead 34 = .ok (.iconst 0, 1) := by decide +kernel
theorem dX1_isAhead_35 : decode cX1_isAhead 35 = .ok (.ireturn, 1) := by decide +kernel
theorem dX1_isAhead_36 : decode cX1_isAhead 36 = .ok (.aload_n 0, 1) := by decide +kernel
theorem dX1_isAhead_37 : decode cX1_isAhead 37 = .ok (.getfield 32, 3) := by decide +kernel
theorem dX1_isAhead_40 : decode cX1_isAhead 40 = .ok (.iload_n 1, 1) := by decide +kernel
theorem dX1_isAhead_41 : decode cX1_isAhead 41 = .ok (.iaload, 1) := by decide +kernel
theorem dX1_isAhead_42 : decode cX1_isAhead 42 = .ok (.aload_n 0, 1) := by decide +kernel
theorem dX1_isAhead_43 : decode cX1_isAhead 43 = .ok (.getfield 32, 3) := by decide +kernel
theorem dX1_isAhead_46 : decode cX1_isAhead 46 = .ok (.iload_n 2, 1) := by decide +kernel
theorem dX1_isAhead_47 : decode cX1_isAhead 47 = .ok (.iaload, 1) := by decide +kernel
theorem dX1_isAhead_48 : decode cX1_isAhead 48 = .ok (.if_icmp .ge 7, 3) := by decide +kernel
theorem dX1_isAhead_51 : decode cX1_isAhead 51 = .ok (.iconst 1, 1) := by decide +kernel
theorem dX1_isAhead_52 : decode cX1_isAhead 52 = .ok (.goto 4, 3) := by decide +kernel
theorem dX1_isAhead_55 : decode cX1_isAhead 55 = .ok (.iconst 0, 1) := by decide +kernel
theorem dX1_isAhead_56 : decode cX1_isAhead 56 = .ok (.ireturn, 1) := by decide +kernel
theorem dX1_endMinute_0 : decode cX1_endMinute 0 = .ok (.iconst 0, 1) := by decide +kernel
theorem dX1_endMinute_1 : decode cX1_endMinute 1 = .ok (.istore_n 3, 1) := by decide +kernel
theorem dX1_endMinute_2 : decode cX1_endMinute 2 = .ok (.iload_n 3, 1) := by decide +kernel
theorem dX1_endMinute_3 : decode cX1_endMinute 3 = .ok (.aload_n 1, 1) := by decide +kernel
theorem dX1_endMinute_4 : decode cX1_endMinute 4 = .ok (.getfield 68, 3) := by decide +kernel
theorem dX1_endMinute_7 : decode cX1_endMinute 7 = .ok (.if_icmp .ge 23, 3) := by decide +kernel
theorem dX1_endMinute_10 : decode cX1_endMinute 10 = .ok (.aload_n 0, 1) := by decide +kernel
theorem dX1_endMinute_11 : decode cX1_endMinute 11 = .ok (.getfield 38, 3) := by decide +kernel
theorem dX1_endMinute_14 : decode cX1_endMinute 14 = .ok (.iload_n 3, 1) := by decide +kernel
theorem dX1_endMinute_15 : decode cX1_endMinute 15 = .ok (.aaload, 1) := by decide +kernel
theorem dX1_endMinute_16 : decode cX1_endMinute 16 = .ok (.iload_n 2, 1) := by decide +kernel
theorem dX1_endMinute_17 : decode cX1_endMinute 17 = .ok (.aload_n 0, 1) := by decide +kernel
theorem dX1_endMinute_18 : decode cX1_endMinute 18 = .ok (.getfield 35, 3) := by decide +kernel
theorem dX1_endMinute_21 : decode cX1_endMinute 21 = .ok (.iload_n 3, 1) := by decide +kernel
theorem dX1_endMinute_22 : decode cX1_endMinute 22 = .ok (.iaload, 1) := by decide +kernel
theorem dX1_endMinute_23 : decode cX1_endMinute 23 = .ok (.iastore, 1) := by decide +kernel
theorem dX1_endMinute_24 : decode cX1_endMinute 24 = .ok (.iinc 3 1, 3) := by decide +kernel
theorem dX1_endMinute_27 : decode cX1_endMinute 27 = .ok (.goto (-25), 3) := by decide +kernel
theorem dX1_endMinute_30 : decode cX1_endMinute 30 = .ok (.aload_n 0, 1) := by decide +kernel
theorem dX1_endMinute_31 : decode cX1_endMinute 31 = .ok (.getfield 41, 3) := by decide +kernel
theorem dX1_endMinute_34 : decode cX1_endMinute 34 = .ok (.aload_n 0, 1) := by decide +kernel
theorem dX1_endMinute_35 : decode cX1_endMinute 35 = .ok (.getfield 48, 3) := by decide +kernel
theorem dX1_endMinute_38 : decode cX1_endMinute 38 = .ok (.if_icmp .le 16, 3) := by decide +kernel
theorem dX1_endMinute_41 : decode cX1_endMinute 41 = .ok (.aload_n 0, 1) := by decide +kernel
theorem dX1_endMinute_42 : decode cX1_endMinute 42 = .ok (.aload_n 0, 1) := by decide +kernel
theorem dX1_endMinute_43 : decode cX1_endMinute 43 = .ok (.getfield 41, 3) := by decide +kernel
theorem dX1_endMinute_46 : decode cX1_endMinute 46 = .ok (.putfield 48, 3) := by decide +kernel
theorem dX1_endMinute_49 : decode cX1_endMinute 49 = .ok (.aload_n 0, 1) := by decide +kernel
theorem dX1_endMinute_50 : decode cX1_endMinute 50 = .ok (.iload_n 2, 1) := by decide +kernel
theorem dX1_endMinute_51 : decode cX1_endMinute 51 = .ok (.putfield 51, 3) := by decide +kernel
theorem dX1_endMinute_54 : decode cX1_endMinute 54 = .ok (.return_, 1) := by decide +kernel
theorem dX1_rodeInAll_0 : decode cX1_rodeInAll 0 = .ok (.iconst 0, 1) := by decide +kernel
theorem dX1_rodeInAll_1 : decode cX1_rodeInAll 1 = .ok (.istore_n 2, 1) := by decide +kernel
theorem dX1_rodeInAll_2 : decode cX1_rodeInAll 2 = .ok (.iconst 0, 1) := by decide +kernel
theorem dX1_rodeInAll_3 : decode cX1_rodeInAll 3 = .ok (.istore_n 3, 1) := by decide +kernel
theorem dX1_rodeInAll_4 : decode cX1_rodeInAll 4 = .ok (.iload_n 3, 1) := by decide +kernel
theorem dX1_rodeInAll_5 : decode cX1_rodeInAll 5 = .ok (.aload_n 1, 1) := by decide +kernel
theorem dX1_rodeInAll_6 : decode cX1_rodeInAll 6 = .ok (.getfield 68, 3) := by decide +kernel
theorem dX1_rodeInAll_9 : decode cX1_rodeInAll 9 = .ok (.if_icmp .ge 18, 3) := by decide +kernel
theorem dX1_rodeInAll_12 : decode cX1_rodeInAll 12 = .ok (.iload_n 2, 1) := by decide +kernel
theorem dX1_rodeInAll_13 : decode cX1_rodeInAll 13 = .ok (.aload_n 0, 1) := by decide +kernel
theorem dX1_rodeInAll_14 : decode cX1_rodeInAll 14 = .ok (.getfield 35, 3) := by decide +kernel
theorem dX1_rodeInAll_17 : decode cX1_rodeInAll 17 = .ok (.iload_n 3, 1) := by decide +kernel
theorem dX1_rodeInAll_18 : decode cX1_rodeInAll 18 = .ok (.iaload, 1) := by decide +kernel
theorem dX1_rodeInAll_19 : decode cX1_rodeInAll 19 = .ok (.iadd, 1) := by decide +kernel
theorem dX1_rodeInAll_20 : decode cX1_rodeInAll 20 = .ok (.istore_n 2, 1) := by decide +kernel
theorem dX1_rodeInAll_21 : decode cX1_rodeInAll 21 = .ok (.iinc 3 1, 3) := by decide +kernel
theorem dX1_rodeInAll_24 : decode cX1_rodeInAll 24 = .ok (.goto (-20), 3) := by decide +kernel
theorem dX1_rodeInAll_27 : decode cX1_rodeInAll 27 = .ok (.iload_n 2, 1) := by decide +kernel
theorem dX1_rodeInAll_28 : decode cX1_rodeInAll 28 = .ok (.ireturn, 1) := by decide +kernel
theorem dX1_leftOf_0 : decode cX1_leftOf 0 = .ok (.iload_n 2, 1) := by decide +kernel
theorem dX1_leftOf_1 : decode cX1_leftOf 1 = .ok (.iconst (-1), 1) := by decide +kernel
theorem dX1_leftOf_2 : decode cX1_leftOf 2 = .ok (.if_icmp .ne 16, 3) := by decide +kernel
theorem dX1_leftOf_5 : decode cX1_leftOf 5 = .ok (.aload_n 1, 1) := by decide +kernel
theorem dX1_leftOf_6 : decode cX1_leftOf 6 = .ok (.invokevirtual 169, 3) := by decide +kernel
theorem dX1_leftOf_9 : decode cX1_leftOf 9 = .ok (.aload_n 0, 1) := by decide +kernel
theorem dX1_leftOf_10 : decode cX1_leftOf 10 = .ok (.aload_n 1, 1) := by decide +kernel
theorem dX1_leftOf_11 : decode cX1_leftOf 11 = .ok (.invokevirtual 173, 3) := by decide +kernel
theorem dX1_leftOf_14 : decode cX1_leftOf 14 = .ok (.isub, 1) := by decide +kernel
theorem dX1_leftOf_15 : decode cX1_leftOf 15 = .ok (.goto 16, 3) := by decide +kernel
theorem dX1_leftOf_18 : decode cX1_leftOf 18 = .ok (.aload_n 1, 1) := by decide +kernel
theorem dX1_leftOf_19 : decode cX1_leftOf 19 = .ok (.getfield 111, 3) := by decide +kernel
theorem dX1_leftOf_22 : decode cX1_leftOf 22 = .ok (.iload_n 2, 1) := by decide +kernel
theorem dX1_leftOf_23 : decode cX1_leftOf 23 = .ok (.iaload, 1) := by decide +kernel
theorem dX1_leftOf_24 : decode cX1_leftOf 24 = .ok (.aload_n 0, 1) := by decide +kernel
theorem dX1_leftOf_25 : decode cX1_leftOf 25 = .ok (.getfield 35, 3) := by decide +kernel
theorem dX1_leftOf_28 : decode cX1_leftOf 28 = .ok (.iload_n 2, 1) := by decide +kernel
theorem dX1_leftOf_29 : decode cX1_leftOf 29 = .ok (.iaload, 1) := by decide +kernel
theorem dX1_leftOf_30 : decode cX1_leftOf 30 = .ok (.isub, 1) := by decide +kernel
theorem dX1_leftOf_31 : decode cX1_leftOf 31 = .ok (.ireturn, 1) := by decide +kernel
theorem dX1_downBehind_0 : decode cX1_downBehind 0 = .ok (.iload_n 2, 1) := by decide +kernel
theorem dX1_downBehind_1 : decode cX1_downBehind 1 = .ok (.iconst (-1), 1) := by decide +kernel
theorem dX1_downBehind_2 : decode cX1_downBehind 2 = .ok (.if_icmp .eq 12, 3) := by decide +kernel
theorem dX1_downBehind_5 : decode cX1_downBehind 5 = .ok (.aload_n 0, 1) := by decide +kernel
theorem dX1_downBehind_6 : decode cX1_downBehind 6 = .ok (.getfield 38, 3) := by decide +kernel
theorem dX1_downBehind_9 : decode cX1_downBehind 9 = .ok (.iload_n 2, 1) := by decide +kernel
theorem dX1_downBehind_10 : decode cX1_downBehind 10 = .ok (.aaload, 1) := by decide +kernel
theorem dX1_downBehind_11 : decode cX1_downBehind 11 = .ok (.iload_n 3, 1) := by decide +kernel
theorem dX1_downBehind_12 : decode cX1_downBehind 12 = .ok (.iaload, 1) := by decide +kernel
theorem dX1_downBehind_13 : decode cX1_downBehind 13 = .ok (.ireturn, 1) := by decide +kernel
theorem dX1_downBehind_14 : decode cX1_downBehind 14 = .ok (.iconst 0, 1) := by decide +kernel
theorem dX1_downBehind_15 : decode cX1_downBehind 15 = .ok (.istore 4, 2) := by decide +kernel
theorem dX1_downBehind_17 : decode cX1_downBehind 17 = .ok (.iconst 0, 1) := by decide +kernel
theorem dX1_downBehind_18 : decode cX1_downBehind 18 = .ok (.istore 5, 2) := by decide +kernel
theorem dX1_downBehind_20 : decode cX1_downBehind 20 = .ok (.iload 5, 2) := by decide +kernel
theorem dX1_downBehind_22 : decode cX1_downBehind 22 = .ok (.aload_n 1, 1) := by decide +kernel
theorem dX1_downBehind_23 : decode cX1_downBehind 23 = .ok (.getfield 68, 3) := by decide +kernel
theorem dX1_downBehind_26 : decode cX1_downBehind 26 = .ok (.if_icmp .ge 23, 3) := by decide +kernel
theorem dX1_downBehind_29 : decode cX1_downBehind 29 = .ok (.iload 4, 2) := by decide +kernel
theorem dX1_downBehind_31 : decode cX1_downBehind 31 = .ok (.aload_n 0, 1) := by decide +kernel
theorem dX1_downBehind_32 : decode cX1_downBehind 32 = .ok (.getfield 38, 3) := by decide +kernel
theorem dX1_downBehind_35 : decode cX1_downBehind 35 = .ok (.iload 5, 2) := by decide +kernel
theorem dX1_downBehind_37 : decode cX1_downBehind 37 = .ok (.aaload, 1) := by decide +kernel
theorem dX1_downBehind_38 : decode cX1_downBehind 38 = .ok (.iload_n 3, 1) := by decide +kernel
theorem dX1_downBehind_39 : decode cX1_downBehind 39 = .ok (.iaload, 1) := by decide +kernel
theorem dX1_downBehind_40 : decode cX1_downBehind 40 = .ok (.iadd, 1) := by decide +kernel
theorem dX1_downBehind_41 : decode cX1_downBehind 41 = .ok (.istore 4, 2) := by decide +kernel
theorem dX1_downBehind_43 : decode cX1_downBehind 43 = .ok (.iinc 5 1, 3) := by decide +kernel
theorem dX1_downBehind_46 : decode cX1_downBehind 46 = .ok (.goto (-26), 3) := by decide +kernel
theorem dX1_downBehind_49 : decode cX1_downBehind 49 = .ok (.iload 4, 2) := by decide +kernel
theorem dX1_downBehind_51 : decode cX1_downBehind 51 = .ok (.ireturn, 1) := by decide +kernel
theorem dX1_harmDone_0 : decode cX1_harmDone 0 = .ok (.lconst 0, 1) := by decide +kernel
theorem dX1_harmDone_1 : decode cX1_harmDone 1 = .ok (.lstore_n 3, 1) := by decide +kernel
theorem dX1_harmDone_2 : decode cX1_harmDone 2 = .ok (.aload_n 0, 1) := by decide +kernel
theorem dX1_harmDone_3 : decode cX1_harmDone 3 = .ok (.getfield 21, 3) := by decide +kernel
theorem dX1_harmDone_6 : decode cX1_harmDone 6 = .ok (.iconst 0, 1) := by decide +kernel
theorem dX1_harmDone_7 : decode cX1_harmDone 7 = .ok (.invokestatic 112, 3) := by decide +kernel
theorem dX1_harmDone_10 : decode cX1_harmDone 10 = .ok (.aload_n 0, 1) := by decide +kernel
theorem dX1_harmDone_11 : decode cX1_harmDone 11 = .ok (.getfield 21, 3) := by decide +kernel
theorem dX1_harmDone_14 : decode cX1_harmDone 14 = .ok (.iconst 1, 1) := by decide +kernel
theorem dX1_harmDone_15 : decode cX1_harmDone 15 = .ok (.aload_n 0, 1) := by decide +kernel
theorem dX1_harmDone_16 : decode cX1_harmDone 16 = .ok (.getfield 41, 3) := by decide +kernel
theorem dX1_harmDone_19 : decode cX1_harmDone 19 = .ok (.iastore, 1) := by decide +kernel
theorem dX1_harmDone_20 : decode cX1_harmDone 20 = .ok (.iconst 0, 1) := by decide +kernel
theorem dX1_harmDone_21 : decode cX1_harmDone 21 = .ok (.istore 5, 2) := by decide +kernel
theorem dX1_harmDone_23 : decode cX1_harmDone 23 = .ok (.iload 5, 2) := by decide +kernel
theorem dX1_harmDone_25 : decode cX1_harmDone 25 = .ok (.aload_n 1, 1) := by decide +kernel
theorem dX1_harmDone_26 : decode cX1_harmDone 26 = .ok (.getfield 68, 3) := by decide +kernel
theorem dX1_harmDone_29 : decode cX1_harmDone 29 = .ok (.if_icmp .ge 50, 3) := by decide +kernel
theorem dX1_harmDone_32 : decode cX1_harmDone 32 = .ok (.aload_n 0, 1) := by decide +kernel
theorem dX1_harmDone_33 : decode cX1_harmDone 33 = .ok (.getfield 21, 3) := by decide +kernel
theorem dX1_harmDone_36 : decode cX1_harmDone 36 = .ok (.iconst 0, 1) := by decide +kernel
theorem dX1_harmDone_37 : decode cX1_harmDone 37 = .ok (.aload_n 0, 1) := by decide +kernel
theorem dX1_harmDone_38 : decode cX1_harmDone 38 = .ok (.getfield 24, 3) := by decide +kernel
theorem dX1_harmDone_41 : decode cX1_harmDone 41 = .ok (.iload 5, 2) := by decide +kernel
theorem dX1_harmDone_43 : decode cX1_harmDone 43 = .ok (.iaload, 1) := by decide +kernel
theorem dX1_harmDone_44 : decode cX1_harmDone 44 = .ok (.iastore, 1) := by decide +kernel
theorem dX1_harmDone_45 : decode cX1_harmDone 45 = .ok (.lload_n 3, 1) := by decide +kernel
theorem dX1_harmDone_46 : decode cX1_harmDone 46 = .ok (.aload_n 2, 1) := by decide +kernel
theorem dX1_harmDone_47 : decode cX1_harmDone 47 = .ok (.iconst 2, 1) := by decide +kernel
theorem dX1_harmDone_48 : decode cX1_harmDone 48 = .ok (.aload_n 0, 1) := by decide +kernel
theorem dX1_harmDone_49 : decode cX1_harmDone 49 = .ok (.getfield 21, 3) := by decide +kernel
theorem dX1_harmDone_52 : decode cX1_harmDone 52 = .ok (.invokevirtual 126, 3) := by decide +kernel
theorem dX1_harmDone_55 : decode cX1_harmDone 55 = .ok (.iconst 0, 1) := by decide +kernel
theorem dX1_harmDone_56 : decode cX1_harmDone 56 = .ok (.bipush 99, 2) := by decide +kernel
theorem dX1_harmDone_58 : decode cX1_harmDone 58 = .ok (.invokestatic 132, 3) := by decide +kernel
theorem dX1_harmDone_61 : decode cX1_harmDone 61 = .ok (.i2l, 1) := by decide +kernel
theorem dX1_harmDone_62 : decode cX1_harmDone 62 = .ok (.aload_n 0, 1) := by decide +kernel
theorem dX1_harmDone_63 : decode cX1_harmDone 63 = .ok (.aload_n 1, 1) := by decide +kernel
theorem dX1_harmDone_64 : decode cX1_harmDone 64 = .ok (.iload 5, 2) := by decide +kernel
theorem dX1_harmDone_66 : decode cX1_harmDone 66 = .ok (.invokevirtual 177, 3) := by decide +kernel
theorem dX1_harmDone_69 : decode cX1_harmDone 69 = .ok (.i2l, 1) := by decide +kernel
theorem dX1_harmDone_70 : decode cX1_harmDone 70 = .ok (.lmul, 1) := by decide +kernel
theorem dX1_harmDone_71 : decode cX1_harmDone 71 = .ok (.ladd, 1) := by decide +kernel
theorem dX1_harmDone_72 : decode cX1_harmDone 72 = .ok (.lstore_n 3, 1) := by decide +kernel
theorem dX1_harmDone_73 : decode cX1_harmDone 73 = .ok (.iinc 5 1, 3) := by decide +kernel
theorem dX1_harmDone_76 : decode cX1_harmDone 76 = .ok (.goto (-53), 3) := by decide +kernel
theorem dX1_harmDone_79 : decode cX1_harmDone 79 = .ok (.lload_n 3, 1) := by decide +kernel
theorem dX1_harmDone_80 : decode cX1_harmDone 80 = .ok (.lreturn, 1) := by decide +kernel
theorem dX2_init_0 : decode cX2_init 0 = .ok (.aload_n 0, 1) := by decide +kernel
theorem dX2_init_1 : decode cX2_init 1 = .ok (.invokespecial 3, 3) := by decide +kernel
theorem dX2_init_4 : decode cX2_init 4 = .ok (.aload_n 0, 1) := by decide +kernel
theorem dX2_init_5 : decode cX2_init 5 = .ok (.iconst 0, 1) := by decide +kernel
theorem dX2_init_6 : decode cX2_init 6 = .ok (.putfield 9, 3) := by decide +kernel
theorem dX2_init_9 : decode cX2_init 9 = .ok (.aload_n 0, 1) := by decide +kernel
theorem dX2_init_10 : decode cX2_init 10 = .ok (.bipush 6, 2) := by decide +kernel
theorem dX2_init_12 : decode cX2_init 12 = .ok (.newarray .int, 2) := by decide +kernel
theorem dX2_init_14 : decode cX2_init 14 = .ok (.putfield 15, 3) := by decide +kernel
theorem dX2_init_17 : decode cX2_init 17 = .ok (.aload_n 0, 1) := by decide +kernel
theorem dX2_init_18 : decode cX2_init 18 = .ok (.bipush 6, 2) := by decide +kernel
theorem dX2_init_20 : decode cX2_init 20 = .ok (.newarray .int, 2) := by decide +kernel
theorem dX2_init_22 : decode cX2_init 22 = .ok (.putfield 19, 3) := by decide +kernel
theorem dX2_init_25 : decode cX2_init 25 = .ok (.aload_n 0, 1) := by decide +kernel
theorem dX2_init_26 : decode cX2_init 26 = .ok (.bipush 6, 2) := by decide +kernel
theorem dX2_init_28 : decode cX2_init 28 = .ok (.newarray .int, 2) := by decide +kernel
theorem dX2_init_30 : decode cX2_init 30 = .ok (.putfield 22, 3) := by decide +kernel
theorem dX2_init_33 : decode cX2_init 33 = .ok (.aload_n 0, 1) := by decide +kernel
theorem dX2_init_34 : decode cX2_init 34 = .ok (.bipush 6, 2) := by decide +kernel
theorem dX2_init_36 : decode cX2_init 36 = .ok (.newarray .int, 2) := by decide +kernel
theorem dX2_init_38 : decode cX2_init 38 = .ok (.putfield 25, 3) := by decide +kernel
theorem dX2_init_41 : decode cX2_init 41 = .ok (.aload_n 0, 1) := by decide +kernel
theorem dX2_init_42 : decode cX2_init 42 = .ok (.bipush 120, 2) := by decide +kernel
theorem dX2_init_44 : decode cX2_init 44 = .ok (.newarray .int, 2) := by decide +kernel
theorem dX2_init_46 : decode cX2_init 46 = .ok (.putfield 28, 3) := by decide +kernel
theorem dX2_init_49 : decode cX2_init 49 = .ok (.aload_n 0, 1) := by decide +kernel
theorem dX2_init_50 : decode cX2_init 50 = .ok (.bipush 90, 2) := by decide +kernel
theorem dX2_init_52 : decode cX2_init 52 = .ok (.putfield 31, 3) := by decide +kernel
theorem dX2_init_55 : decode cX2_init 55 = .ok (.aload_n 0, 1) := by decide +kernel
theorem dX2_init_56 : decode cX2_init 56 = .ok (.iconst (-1), 1) := by decide +kernel
theorem dX2_init_57 : decode cX2_init 57 = .ok (.putfield 34, 3) := by decide +kernel
theorem dX2_init_60 : decode cX2_init 60 = .ok (.aload_n 0, 1) := by decide +kernel
theorem dX2_init_61 : decode cX2_init 61 = .ok (.iconst (-1), 1) := by decide +kernel
theorem dX2_init_62 : decode cX2_init 62 = .ok (.putfield 37, 3) := by decide +kernel
theorem dX2_init_65 : decode cX2_init 65 = .ok (.aload_n 0, 1) := by decide +kernel
theorem dX2_init_66 : decode cX2_init 66 = .ok (.iconst 0, 1) := by decide +kernel
theorem dX2_init_67 : decode cX2_init 67 = .ok (.putfield 40, 3) := by decide +kernel
theorem dX2_init_70 : decode cX2_init 70 = .ok (.aload_n 0, 1) := by decide +kernel
theorem dX2_init_71 : decode cX2_init 71 = .ok (.getfield 28, 3) := by decide +kernel
theorem dX2_init_74 : decode cX2_init 74 = .ok (.iconst 5, 1) := by decide +kernel
theorem dX2_init_75 : decode cX2_init 75 = .ok (.invokestatic 43, 3) := by decide +kernel
theorem dX2_init_78 : decode cX2_init 78 = .ok (.return_, 1) := by decide +kernel
theorem dX2_addSort_0 : decode cX2_addSort 0 = .ok (.iload_n 2, 1) := by decide +kernel
theorem dX2_addSort_1 : decode cX2_addSort 1 = .ok (.ifCond .ge 6, 3) := by decide +kernel
theorem dX2_addSort_4 : decode cX2_addSort 4 = .ok (.bipush (-2), 2) := by decide +kernel
theorem dX2_addSort_6 : decode cX2_addSort 6 = .ok (.ireturn, 1) := by decide +kernel
theorem dX2_addSort_7 : decode cX2_addSort 7 = .ok (.iload_n 2, 1) := by decide +kernel
theorem dX2_addSort_8 : decode cX2_addSort 8 = .ok (.sipush 1000, 3) := by decide +kernel
theorem dX2_addSort_11 : decode cX2_addSort 11 = .ok (.idiv, 1) := by decide +kernel
theorem dX2_addSort_12 : decode cX2_addSort 12 = .ok (.istore_n 3, 1) := by decide +kernel
theorem dX2_addSort_13 : decode cX2_addSort 13 = .ok (.iload_n 2, 1) := by decide +kernel
theorem dX2_addSort_14 : decode cX2_addSort 14 = .ok (.bipush 10, 2) := by decide +kernel
theorem dX2_addSort_16 : decode cX2_addSort 16 = .ok (.idiv, 1) := by decide +kernel
theorem dX2_addSort_17 : decode cX2_addSort 17 = .ok (.bipush 100, 2) := by decide +kernel
theorem dX2_addSort_19 : decode cX2_addSort 19 = .ok (.irem, 1) := by decide +kernel
theorem dX2_addSort_20 : decode cX2_addSort 20 = .ok (.istore 4, 2) := by decide +kernel
theorem dX2_addSort_22 : decode cX2_addSort 22 = .ok (.iload_n 2, 1) := by decide +kernel
theorem dX2_addSort_23 : decode cX2_addSort 23 = .ok (.bipush 10, 2) := by decide +kernel
theorem dX2_addSort_25 : decode cX2_addSort 25 = .ok (.irem, 1) := by decide +kernel
theorem dX2_addSort_26 : decode cX2_addSort 26 = .ok (.istore 5, 2) := by decide +kernel
theorem dX2_addSort_28 : decode cX2_addSort 28 = .ok (.iconst 0, 1) := by decide +kernel
theorem dX2_addSort_29 : decode cX2_addSort 29 = .ok (.iload_n 1, 1) := by decide +kernel
theorem dX2_addSort_30 : decode cX2_addSort 30 = .ok (.invokestatic 49, 3) := by decide +kernel
theorem dX2_addSort_33 : decode cX2_addSort 33 = .ok (.ifCond .eq 20, 3) := by decide +kernel
theorem dX2_addSort_36 : decode cX2_addSort 36 = .ok (.iconst 1, 1) := by decide +kernel
theorem dX2_addSort_37 : decode cX2_addSort 37 = .ok (.iload_n 3, 1) := by decide +kernel
theorem dX2_addSort_38 : decode cX2_addSort 38 = .ok (.invokestatic 49, 3) := by decide +kernel
theorem dX2_addSort_41 : decode cX2_addSort 41 = .ok (.ifCond .eq 12, 3) := by decide +kernel
theorem dX2_addSort_44 : decode cX2_addSort 44 = .ok (.iconst 2, 1) := by decide +kernel
theorem dX2_addSort_45 : decode cX2_addSort 45 = .ok (.iload 4, 2) := by decide +kernel
theorem dX2_addSort_47 : decode cX2_addSort 47 = .ok (.invokestatic 49, 3) := by decide +kernel
theorem dX2_addSort_50 : decode cX2_addSort 50 = .ok (.ifCond .ne 6, 3) := by decide +kernel
theorem dX2_addSort_53 : decode cX2_addSort 53 = .ok (.bipush (-2), 2) := by decide +kernel
theorem dX2_addSort_55 : decode cX2_addSort 55 = .ok (.ireturn, 1) := by decide +kernel
theorem dX2_addSort_56 : decode cX2_addSort 56 = .ok (.aload_n 0, 1) := by decide +kernel
theorem dX2_addSort_57 : decode cX2_addSort 57 = .ok (.getfield 9, 3) := by decide +kernel
theorem dX2_addSort_60 : decode cX2_addSort 60 = .ok (.bipush 6, 2) := by decide +kernel
theorem dX2_addSort_62 : decode cX2_addSort 62 = .ok (.if_icmp .lt 6, 3) := by decide +kernel
theorem dX2_addSort_65 : decode cX2_addSort 65 = .ok (.bipush (-4), 2) := by decide +kernel
theorem dX2_addSort_67 : decode cX2_addSort 67 = .ok (.ireturn, 1) := by decide +kernel
theorem dX2_addSort_68 : decode cX2_addSort 68 = .ok (.aload_n 0, 1) := by decide +kernel
theorem dX2_addSort_69 : decode cX2_addSort 69 = .ok (.getfield 15, 3) := by decide +kernel
theorem dX2_addSort_72 : decode cX2_addSort 72 = .ok (.aload_n 0, 1) := by decide +kernel
theorem dX2_addSort_73 : decode cX2_addSort 73 = .ok (.getfield 9, 3) := by decide +kernel
theorem dX2_addSort_76 : decode cX2_addSort 76 = .ok (.iload_n 1, 1) := by decide +kernel
theorem dX2_addSort_77 : decode cX2_addSort 77 = .ok (.iastore, 1) := by decide +kernel
theorem dX2_addSort_78 : decode cX2_addSort 78 = .ok (.aload_n 0, 1) := by decide +kernel
theorem dX2_addSort_79 : decode cX2_addSort 79 = .ok (.getfield 19, 3) := by decide +kernel
theorem dX2_addSort_82 : decode cX2_addSort 82 = .ok (.aload_n 0, 1) := by decide +kernel
theorem dX2_addSort_83 : decode cX2_addSort 83 = .ok (.getfield 9, 3) := by decide +kernel
theorem dX2_addSort_86 : decode cX2_addSort 86 = .ok (.iload_n 3, 1) := by decide +kernel
theorem dX2_addSort_87 : decode cX2_addSort 87 = .ok (.iastore, 1) := by decide +kernel
theorem dX2_addSort_88 : decode cX2_addSort 88 = .ok (.aload_n 0, 1) := by decide +kernel
theorem dX2_addSort_89 : decode cX2_addSort 89 = .ok (.getfield 22, 3) := by decide +kernel
theorem dX2_addSort_92 : decode cX2_addSort 92 = .ok (.aload_n 0, 1) := by decide +kernel
theorem dX2_addSort_93 : decode cX2_addSort 93 = .ok (.getfield 9, 3) := by decide +kernel
theorem dX2_addSort_96 : decode cX2_addSort 96 = .ok (.iload 4, 2) := by decide +kernel
theorem dX2_addSort_98 : decode cX2_addSort 98 = .ok (.iastore, 1) := by decide +kernel
theorem dX2_addSort_99 : decode cX2_addSort 99 = .ok (.aload_n 0, 1) := by decide +kernel
theorem dX2_addSort_100 : decode cX2_addSort 100 = .ok (.getfield 25, 3) := by decide +kernel
theorem dX2_addSort_103 : decode cX2_addSort 103 = .ok (.aload_n 0, 1) := by decide +kernel
theorem dX2_addSort_104 : decode cX2_addSort 104 = .ok (.getfield 9, 3) := by decide +kernel
theorem dX2_addSort_107 : decode cX2_addSort 107 = .ok (.iload 5, 2) := by decide +kernel
theorem dX2_addSort_109 : decode cX2_addSort 109 = .ok (.iastore, 1) := by decide +kernel
theorem dX2_addSort_110 : decode cX2_addSort 110 = .ok (.aload_n 0, 1) := by decide +kernel
theorem dX2_addSort_111 : decode cX2_addSort 111 = .ok (.dup, 1) := by decide +kernel
theorem dX2_addSort_112 : decode cX2_addSort 112 = .ok (.getfield 9, 3) := by decide +kernel
theorem dX2_addSort_115 : decode cX2_addSort 115 = .ok (.dup_x1, 1) := by decide +kernel
theorem dX2_addSort_116 : decode cX2_addSort 116 = .ok (.iconst 1, 1) := by decide +kernel
theorem dX2_addSort_117 : decode cX2_addSort 117 = .ok (.iadd, 1) := by decide +kernel
theorem dX2_addSort_118 : decode cX2_addSort 118 = .ok (.putfield 9, 3) := by decide +kernel
theorem dX2_addSort_121 : decode cX2_addSort 121 = .ok (.ireturn, 1) := by decide +kernel
theorem dX2_rowOf_0 : decode cX2_rowOf 0 = .ok (.iload_n 1, 1) := by decide +kernel
theorem dX2_rowOf_1 : decode cX2_rowOf 1 = .ok (.tableswitch 60 0 4 #[35, 40, 45, 50, 55], 35) := by decide +kernel
theorem dX2_rowOf_36 : decode cX2_rowOf 36 = .ok (.aload_n 0, 1) := by decide +kernel
theorem dX2_rowOf_37 : decode cX2_rowOf 37 = .ok (.getfield 15, 3) := by decide +kernel
theorem dX2_rowOf_40 : decode cX2_rowOf 40 = .ok (.areturn, 1) := by decide +kernel
theorem dX2_rowOf_41 : decode cX2_rowOf 41 = .ok (.aload_n 0, 1) := by decide +kernel
theorem dX2_rowOf_42 : decode cX2_rowOf 42 = .ok (.getfield 19, 3) := by decide +kernel
theorem dX2_rowOf_45 : decode cX2_rowOf 45 = .ok (.areturn, 1) := by decide +kernel
theorem dX2_rowOf_46 : decode cX2_rowOf 46 = .ok (.aload_n 0, 1) := by decide +kernel
theorem dX2_rowOf_47 : decode cX2_rowOf 47 = .ok (.getfield 22, 3) := by decide +kernel
theorem dX2_rowOf_50 : decode cX2_rowOf 50 = .ok (.areturn, 1) := by decide +kernel
theorem dX2_rowOf_51 : decode cX2_rowOf 51 = .ok (.aload_n 0, 1) := by decide +kernel
theorem dX2_rowOf_52 : decode cX2_rowOf 52 = .ok (.getfield 25, 3) := by decide +kernel
theorem dX2_rowOf_55 : decode cX2_rowOf 55 = .ok (.areturn, 1) := by decide +kernel
theorem dX2_rowOf_56 : decode cX2_rowOf 56 = .ok (.aload_n 0, 1) := by decide +kernel
theorem dX2_rowOf_57 : decode cX2_rowOf 57 = .ok (.getfield 28, 3) := by decide +kernel
theorem dX2_rowOf_60 : decode cX2_rowOf 60 = .ok (.areturn, 1) := by decide +kernel
theorem dX2_rowOf_61 : decode cX2_rowOf 61 = .ok (.aconst_null, 1) := by decide +kernel
theorem dX2_rowOf_62 : decode cX2_rowOf 62 = .ok (.areturn, 1) := by decide +kernel
theorem dX2_sizeOf_0 : decode cX2_sizeOf 0 = .ok (.iload_n 1, 1) := by decide +kernel
theorem dX2_sizeOf_1 : decode cX2_sizeOf 1 = .ok (.iconst 4, 1) := by decide +kernel
theorem dX2_sizeOf_2 : decode cX2_sizeOf 2 = .ok (.if_icmp .ne 8, 3) := by decide +kernel
theorem dX2_sizeOf_5 : decode cX2_sizeOf 5 = .ok (.bipush 120, 2) := by decide +kernel
theorem dX2_sizeOf_7 : decode cX2_sizeOf 7 = .ok (.goto 7, 3) := by decide +kernel
theorem dX2_sizeOf_10 : decode cX2_sizeOf 10 = .ok (.aload_n 0, 1) := by decide +kernel
theorem dX2_sizeOf_11 : decode cX2_sizeOf 11 = .ok (.getfield 9, 3) := by decide +kernel
theorem dX2_sizeOf_14 : decode cX2_sizeOf 14 = .ok (.ireturn, 1) := by decide +kernel
theorem dX2_isShutIn_0 : decode cX2_isShutIn 0 = .ok (.aload_n 0, 1) := by decide +kernel
theorem dX2_isShutIn_1 : decode cX2_isShutIn 1 = .ok (.getfield 34, 3) := by decide +kernel
theorem dX2_isShutIn_4 : decode cX2_isShutIn 4 = .ok (.iconst (-1), 1) := by decide +kernel
theorem dX2_isShutIn_5 : decode cX2_isShutIn 5 = .ok (.if_icmp .eq 22, 3) := by decide +kernel
theorem dX2_isShutIn_8 : decode cX2_isShutIn 8 = .ok (.iload_n 1, 1) := by decide +kernel
theorem dX2_isShutIn_9 : decode cX2_isShutIn 9 = .ok (.aload_n 0, 1) := by decide +kernel
theorem dX2_isShutIn_10 : decode cX2_isShutIn 10 = .ok (.getfield 34, 3) := by decide +kernel
theorem dX2_isShutIn_13 : decode cX2_isShutIn 13 = .ok (.aload_n 0, 1) := by decide +kernel
theorem dX2_isShutIn_14 : decode cX2_isShutIn 14 = .ok (.getfield 37, 3) := by decide +kernel
theorem dX2_isShutIn_17 : decode cX2_isShutIn 17 = .ok (.invokestatic 53, 3) := by decide +kernel
theorem dX2_isShutIn_20 : decode cX2_isShutIn 20 = .ok (.ifCond .eq 7, 3) := by decide +kernel
theorem dX2_isShutIn_23 : decode cX2_isShutIn 23 = .ok (.iconst 1, 1) := by decide +kernel
theorem dX2_isShutIn_24 : decode cX2_isShutIn 24 = .ok (.goto 4, 3) := by decide +kernel
theorem dX2_isShutIn_27 : decode cX2_isShutIn 27 = .ok (.iconst 0, 1) := by decide +kernel
theorem dX2_isShutIn_28 : decode cX2_isShutIn 28 = .ok (.ireturn, 1) := by decide +kernel
theorem dX2_allUp_0 : decode cX2_allUp 0 = .ok (.iconst 0, 1) := by decide +kernel
theorem dX2_allUp_1 : decode cX2_allUp 1 = .ok (.istore_n 1, 1) := by decide +kernel
theorem dX2_allUp_2 : decode cX2_allUp 2 = .ok (.iconst 0, 1) := by decide +kernel
theorem dX2_allUp_3 : decode cX2_allUp 3 = .ok (.istore_n 2, 1) := by decide +kernel
theorem dX2_allUp_4 : decode cX2_allUp 4 = .ok (.iload_n 2, 1) := by decide +kernel
theorem dX2_allUp_5 : decode cX2_allUp 5 = .ok (.aload_n 0, 1) := by decide +kernel
theorem dX2_allUp_6 : decode cX2_allUp 6 = .ok (.getfield 9, 3) := by decide +kernel
theorem dX2_allUp_9 : decode cX2_allUp 9 = .ok (.if_icmp .ge 18, 3) := by decide +kernel
theorem dX2_allUp_12 : decode cX2_allUp 12 = .ok (.iload_n 1, 1) := by decide +kernel
theorem dX2_allUp_13 : decode cX2_allUp 13 = .ok (.aload_n 0, 1) := by decide +kernel
theorem dX2_allUp_14 : decode cX2_allUp 14 = .ok (.getfield 15, 3) := by decide +kernel
theorem dX2_allUp_17 : decode cX2_allUp 17 = .ok (.iload_n 2, 1) := by decide +kernel
theorem dX2_allUp_18 : decode cX2_allUp 18 = .ok (.iaload, 1) := by decide +kernel
theorem dX2_allUp_19 : decode cX2_allUp 19 = .ok (.iadd, 1) := by decide +kernel
theorem dX2_allUp_20 : decode cX2_allUp 20 = .ok (.istore_n 1, 1) := by decide +kernel
theorem dX2_allUp_21 : decode cX2_allUp 21 = .ok (.iinc 2 1, 3) := by decide +kernel
theorem dX2_allUp_24 : decode cX2_allUp 24 = .ok (.goto (-20), 3) := by decide +kernel
theorem dX2_allUp_27 : decode cX2_allUp 27 = .ok (.iload_n 1, 1) := by decide +kernel
theorem dX2_allUp_28 : decode cX2_allUp 28 = .ok (.ireturn, 1) := by decide +kernel
theorem dX2_takeOver_0 : decode cX2_takeOver 0 = .ok (.aload_n 1, 1) := by decide +kernel
theorem dX2_takeOver_1 : decode cX2_takeOver 1 = .ok (.getfield 15, 3) := by decide +kernel
theorem dX2_takeOver_4 : decode cX2_takeOver 4 = .ok (.iconst 0, 1) := by decide +kernel
theorem dX2_takeOver_5 : decode cX2_takeOver 5 = .ok (.aload_n 0, 1) := by decide +kernel
theorem dX2_takeOver_6 : decode cX2_takeOver 6 = .ok (.getfield 15, 3) := by decide +kernel
theorem dX2_takeOver_9 : decode cX2_takeOver 9 = .ok (.iconst 0, 1) := by decide +kernel
theorem dX2_takeOver_10 : decode cX2_takeOver 10 = .ok (.aload_n 1, 1) := by decide +kernel
theorem dX2_takeOver_11 : decode cX2_takeOver 11 = .ok (.getfield 9, 3) := by decide +kernel
theorem dX2_takeOver_14 : decode cX2_takeOver 14 = .ok (.invokestatic 57, 3) := by decide +kernel
theorem dX2_takeOver_17 : decode cX2_takeOver 17 = .ok (.aload_n 1, 1) := by decide +kernel
theorem dX2_takeOver_18 : decode cX2_takeOver 18 = .ok (.getfield 19, 3) := by decide +kernel
theorem dX2_takeOver_21 : decode cX2_takeOver 21 = .ok (.iconst 0, 1) := by decide +kernel
theorem dX2_takeOver_22 : decode cX2_takeOver 22 = .ok (.aload_n 0, 1) := by decide +kernel
theorem dX2_takeOver_23 : decode cX2_takeOver 23 = .ok (.getfield 19, 3) := by decide +kernel
theorem dX2_takeOver_26 : decode cX2_takeOver 26 = .ok (.iconst 0, 1) := by decide +kernel
theorem dX2_takeOver_27 : decode cX2_takeOver 27 = .ok (.aload_n 1, 1) := by decide +kernel
theorem dX2_takeOver_28 : decode cX2_takeOver 28 = .ok (.getfield 9, 3) := by decide +kernel
theorem dX2_takeOver_31 : decode cX2_takeOver 31 = .ok (.invokestatic 57, 3) := by decide +kernel
theorem dX2_takeOver_34 : decode cX2_takeOver 34 = .ok (.aload_n 1, 1) := by decide +kernel
theorem dX2_takeOver_35 : decode cX2_takeOver 35 = .ok (.getfield 22, 3) := by decide +kernel
theorem dX2_takeOver_38 : decode cX2_takeOver 38 = .ok (.iconst 0, 1) := by decide +kernel
theorem dX2_takeOver_39 : decode cX2_takeOver 39 = .ok (.aload_n 0, 1) := by decide +kernel
theorem dX2_takeOver_40 : decode cX2_takeOver 40 = .ok (.getfield 22, 3) := by decide +kernel
theorem dX2_takeOver_43 : decode cX2_takeOver 43 = .ok (.iconst 0, 1) := by decide +kernel
theorem dX2_takeOver_44 : decode cX2_takeOver 44 = .ok (.aload_n 1, 1) := by decide +kernel
theorem dX2_takeOver_45 : decode cX2_takeOver 45 = .ok (.getfield 9, 3) := by decide +kernel
theorem dX2_takeOver_48 : decode cX2_takeOver 48 = .ok (.invokestatic 57, 3) := by decide +kernel
theorem dX2_takeOver_51 : decode cX2_takeOver 51 = .ok (.aload_n 1, 1) := by decide +kernel
theorem dX2_takeOver_52 : decode cX2_takeOver 52 = .ok (.getfield 25, 3) := by decide +kernel
theorem dX2_takeOver_55 : decode cX2_takeOver 55 = .ok (.iconst 0, 1) := by decide +kernel
theorem dX2_takeOver_56 : decode cX2_takeOver 56 = .ok (.aload_n 0, 1) := by decide +kernel
theorem dX2_takeOver_57 : decode cX2_takeOver 57 = .ok (.getfield 25, 3) := by decide +kernel
theorem dX2_takeOver_60 : decode cX2_takeOver 60 = .ok (.iconst 0, 1) := by decide +kernel
theorem dX2_takeOver_61 : decode cX2_takeOver 61 = .ok (.aload_n 1, 1) := by decide +kernel
theorem dX2_takeOver_62 : decode cX2_takeOver 62 = .ok (.getfield 9, 3) := by decide +kernel
theorem dX2_takeOver_65 : decode cX2_takeOver 65 = .ok (.invokestatic 57, 3) := by decide +kernel
theorem dX2_takeOver_68 : decode cX2_takeOver 68 = .ok (.aload_n 1, 1) := by decide +kernel
theorem dX2_takeOver_69 : decode cX2_takeOver 69 = .ok (.getfield 28, 3) := by decide +kernel
theorem dX2_takeOver_72 : decode cX2_takeOver 72 = .ok (.iconst 0, 1) := by decide +kernel
theorem dX2_takeOver_73 : decode cX2_takeOver 73 = .ok (.aload_n 0, 1) := by decide +kernel
theorem dX2_takeOver_74 : decode cX2_takeOver 74 = .ok (.getfield 28, 3) := by decide +kernel
theorem dX2_takeOver_77 : decode cX2_takeOver 77 = .ok (.iconst 0, 1) := by decide +kernel
theorem dX2_takeOver_78 : decode cX2_takeOver 78 = .ok (.bipush 120, 2) := by decide +kernel
theorem dX2_takeOver_80 : decode cX2_takeOver 80 = .ok (.invokestatic 57, 3) := by decide +kernel
theorem dX2_takeOver_83 : decode cX2_takeOver 83 = .ok (.aload_n 0, 1) := by decide +kernel
theorem dX2_takeOver_84 : decode cX2_takeOver 84 = .ok (.aload_n 0, 1) := by decide +kernel
theorem dX2_takeOver_85 : decode cX2_takeOver 85 = .ok (.getfield 9, 3) := by decide +kernel
theorem dX2_takeOver_88 : decode cX2_takeOver 88 = .ok (.aload_n 1, 1) := by decide +kernel
theorem dX2_takeOver_89 : decode cX2_takeOver 89 = .ok (.getfield 9, 3) := by decide +kernel
theorem dX2_takeOver_92 : decode cX2_takeOver 92 = .ok (.invokestatic 63, 3) := by decide +kernel
theorem dX2_takeOver_95 : decode cX2_takeOver 95 = .ok (.putfield 9, 3) := by decide +kernel
theorem dX2_takeOver_98 : decode cX2_takeOver 98 = .ok (.aload_n 0, 1) := by decide +kernel
theorem dX2_takeOver_99 : decode cX2_takeOver 99 = .ok (.aload_n 1, 1) := by decide +kernel
theorem dX2_takeOver_100 : decode cX2_takeOver 100 = .ok (.getfield 31, 3) := by decide +kernel
theorem dX2_takeOver_103 : decode cX2_takeOver 103 = .ok (.putfield 31, 3) := by decide +kernel
theorem dX2_takeOver_106 : decode cX2_takeOver 106 = .ok (.aload_n 0, 1) := by decide +kernel
theorem dX2_takeOver_107 : decode cX2_takeOver 107 = .ok (.aload_n 1, 1) := by decide +kernel
theorem dX2_takeOver_108 : decode cX2_takeOver 108 = .ok (.getfield 34, 3) := by decide +kernel
theorem dX2_takeOver_111 : decode cX2_takeOver 111 = .ok (.putfield 34, 3) := by decide +kernel
theorem dX2_takeOver_114 : decode cX2_takeOver 114 = .ok (.aload_n 0, 1) := by decide +kernel
theorem dX2_takeOver_115 : decode cX2_takeOver 115 = .ok (.aload_n 1, 1) := by decide +kernel
theorem dX2_takeOver_116 : decode cX2_takeOver 116 = .ok (.getfield 37, 3) := by decide +kernel
theorem dX2_takeOver_119 : decode cX2_takeOver 119 = .ok (.putfield 37, 3) := by decide +kernel
theorem dX2_takeOver_122 : decode cX2_takeOver 122 = .ok (.aload_n 0, 1) := by decide +kernel
theorem dX2_takeOver_123 : decode cX2_takeOver 123 = .ok (.aload_n 1, 1) := by decide +kernel
theorem dX2_takeOver_124 : decode cX2_takeOver 124 = .ok (.getfield 40, 3) := by decide +kernel
theorem dX2_takeOver_127 : decode cX2_takeOver 127 = .ok (.putfield 40, 3) := by decide +kernel
theorem dX2_takeOver_130 : decode cX2_takeOver 130 = .ok (.return_, 1) := by decide +kernel
theorem dX3_init_0 : decode cX3_init 0 = .ok (.aload_n 0, 1) := by decide +kernel
theorem dX3_init_1 : decode cX3_init 1 = .ok (.invokespecial 3, 3) := by decide +kernel
theorem dX3_init_4 : decode cX3_init 4 = .ok (.aload_n 0, 1) := by decide +kernel
theorem dX3_init_5 : decode cX3_init 5 = .ok (.iconst (-1), 1) := by decide +kernel
theorem dX3_init_6 : decode cX3_init 6 = .ok (.putfield 9, 3) := by decide +kernel
theorem dX3_init_9 : decode cX3_init 9 = .ok (.aload_n 0, 1) := by decide +kernel
theorem dX3_init_10 : decode cX3_init 10 = .ok (.iconst 0, 1) := by decide +kernel
theorem dX3_init_11 : decode cX3_init 11 = .ok (.putfield 15, 3) := by decide +kernel
theorem dX3_init_14 : decode cX3_init 14 = .ok (.aload_n 0, 1) := by decide +kernel
theorem dX3_init_15 : decode cX3_init 15 = .ok (.bipush 40, 2) := by decide +kernel
theorem dX3_init_17 : decode cX3_init 17 = .ok (.newarray .int, 2) := by decide +kernel
theorem dX3_init_19 : decode cX3_init 19 = .ok (.putfield 18, 3) := by decide +kernel
theorem dX3_init_22 : decode cX3_init 22 = .ok (.return_, 1) := by decide +kernel
theorem dX3_become_0 : decode cX3_become 0 = .ok (.aload_n 0, 1) := by decide +kernel
theorem dX3_become_1 : decode cX3_become 1 = .ok (.iload_n 1, 1) := by decide +kernel
theorem dX3_become_2 : decode cX3_become 2 = .ok (.putfield 9, 3) := by decide +kernel
theorem dX3_become_5 : decode cX3_become 5 = .ok (.aload_n 0, 1) := by decide +kernel
theorem dX3_become_6 : decode cX3_become 6 = .ok (.iload_n 2, 1) := by decide +kernel
theorem dX3_become_7 : decode cX3_become 7 = .ok (.putfield 15, 3) := by decide +kernel
theorem dX3_become_10 : decode cX3_become 10 = .ok (.aload_n 0, 1) := by decide +kernel
theorem dX3_become_11 : decode cX3_become 11 = .ok (.getfield 18, 3) := by decide +kernel
theorem dX3_become_14 : decode cX3_become 14 = .ok (.iconst 0, 1) := by decide +kernel
theorem dX3_become_15 : decode cX3_become 15 = .ok (.invokestatic 22, 3) := by decide +kernel
theorem dX3_become_18 : decode cX3_become 18 = .ok (.return_, 1) := by decide +kernel
theorem dX3_has_0 : decode cX3_has 0 = .ok (.iload_n 1, 1) := by decide +kernel
theorem dX3_has_1 : decode cX3_has 1 = .ok (.iconst 0, 1) := by decide +kernel
theorem dX3_has_2 : decode cX3_has 2 = .ok (.aload_n 0, 1) := by decide +kernel
theorem dX3_has_3 : decode cX3_has 3 = .ok (.getfield 15, 3) := by decide +kernel
theorem dX3_has_6 : decode cX3_has 6 = .ok (.iconst 1, 1) := by decide +kernel
theorem dX3_has_7 : decode cX3_has 7 = .ok (.isub, 1) := by decide +kernel
theorem dX3_has_8 : decode cX3_has 8 = .ok (.invokestatic 28, 3) := by decide +kernel
theorem dX3_has_11 : decode cX3_has 11 = .ok (.ireturn, 1) := by decide +kernel
theorem dX3_hasRow_0 : decode cX3_hasRow 0 = .ok (.iload_n 2, 1) := by decide +kernel
theorem dX3_hasRow_1 : decode cX3_hasRow 1 = .ok (.ifCond .lt 29, 3) := by decide +kernel
theorem dX3_hasRow_4 : decode cX3_hasRow 4 = .ok (.iload_n 1, 1) := by decide +kernel
theorem dX3_hasRow_5 : decode cX3_hasRow 5 = .ok (.iconst 0, 1) := by decide +kernel
theorem dX3_hasRow_6 : decode cX3_hasRow 6 = .ok (.aload_n 0, 1) := by decide +kernel
theorem dX3_hasRow_7 : decode cX3_hasRow 7 = .ok (.getfield 15, 3) := by decide +kernel
theorem dX3_hasRow_10 : decode cX3_hasRow 10 = .ok (.invokestatic 28, 3) := by decide +kernel
theorem dX3_hasRow_13 : decode cX3_hasRow 13 = .ok (.ifCond .eq 17, 3) := by decide +kernel
theorem dX3_hasRow_16 : decode cX3_hasRow 16 = .ok (.iload_n 2, 1) := by decide +kernel
theorem dX3_hasRow_17 : decode cX3_hasRow 17 = .ok (.aload_n 0, 1) := by decide +kernel
theorem dX3_hasRow_18 : decode cX3_hasRow 18 = .ok (.getfield 15, 3) := by decide +kernel
theorem dX3_hasRow_21 : decode cX3_hasRow 21 = .ok (.iload_n 1, 1) := by decide +kernel
theorem dX3_hasRow_22 : decode cX3_hasRow 22 = .ok (.isub, 1) := by decide +kernel
theorem dX3_hasRow_23 : decode cX3_hasRow 23 = .ok (.if_icmp .gt 7, 3) := by decide +kernel
theorem dX3_hasRow_26 : decode cX3_hasRow 26 = .ok (.iconst 1, 1) := by decide +kernel
theorem dX3_hasRow_27 : decode cX3_hasRow 27 = .ok (.goto 4, 3) := by decide +kernel
theorem dX3_hasRow_30 : decode cX3_hasRow 30 = .ok (.iconst 0, 1) := by decide +kernel
theorem dX3_hasRow_31 : decode cX3_hasRow 31 = .ok (.ireturn, 1) := by decide +kernel
theorem dX3_put_0 : decode cX3_put 0 = .ok (.aload_n 0, 1) := by decide +kernel
theorem dX3_put_1 : decode cX3_put 1 = .ok (.getfield 9, 3) := by decide +kernel
theorem dX3_put_4 : decode cX3_put 4 = .ok (.ifCond .ne 14, 3) := by decide +kernel
theorem dX3_put_7 : decode cX3_put 7 = .ok (.aload_n 0, 1) := by decide +kernel
theorem dX3_put_8 : decode cX3_put 8 = .ok (.getfield 18, 3) := by decide +kernel
theorem dX3_put_11 : decode cX3_put 11 = .ok (.iload_n 1, 1) := by decide +kernel
theorem dX3_put_12 : decode cX3_put 12 = .ok (.iload_n 2, 1) := by decide +kernel
theorem dX3_put_13 : decode cX3_put 13 = .ok (.i2b, 1) := by decide +kernel
theorem dX3_put_14 : decode cX3_put 14 = .ok (.iastore, 1) := by decide +kernel
theorem dX3_put_15 : decode cX3_put 15 = .ok (.goto 29, 3) := by decide +kernel
theorem dX3_put_18 : decode cX3_put 18 = .ok (.aload_n 0, 1) := by decide +kernel
theorem dX3_put_19 : decode cX3_put 19 = .ok (.getfield 9, 3) := by decide +kernel
theorem dX3_put_22 : decode cX3_put 22 = .ok (.iconst 1, 1) := by decide +kernel
theorem dX3_put_23 : decode cX3_put 23 = .ok (.if_icmp .ne 14, 3) := by decide +kernel
theorem dX3_put_26 : decode cX3_put 26 = .ok (.aload_n 0, 1) := by decide +kernel
theorem dX3_put_27 : decode cX3_put 27 = .ok (.getfield 18, 3) := by decide +kernel
theorem dX3_put_30 : decode cX3_put 30 = .ok (.iload_n 1, 1) := by decide +kernel
theorem dX3_put_31 : decode cX3_put 31 = .ok (.iload_n 2, 1) := by decide +kernel
theorem dX3_put_32 : decode cX3_put 32 = .ok (.i2s, 1) := by decide +kernel
theorem dX3_put_33 : decode cX3_put 33 = .ok (.iastore, 1) := by decide +kernel
theorem dX3_put_34 : decode cX3_put 34 = .ok (.goto 10, 3) := by decide +kernel
theorem dX3_put_37 : decode cX3_put 37 = .ok (.aload_n 0, 1) := by decide +kernel
theorem dX3_put_38 : decode cX3_put 38 = .ok (.getfield 18, 3) := by decide +kernel
theorem dX3_put_41 : decode cX3_put 41 = .ok (.iload_n 1, 1) := by decide +kernel
theorem dX3_put_42 : decode cX3_put 42 = .ok (.iload_n 2, 1) := by decide +kernel
theorem dX3_put_43 : decode cX3_put 43 = .ok (.iastore, 1) := by decide +kernel
theorem dX3_put_44 : decode cX3_put 44 = .ok (.return_, 1) := by decide +kernel
theorem dX3_allBetween_0 : decode cX3_allBetween 0 = .ok (.iconst 0, 1) := by decide +kernel
theorem dX3_allBetween_1 : decode cX3_allBetween 1 = .ok (.istore_n 3, 1) := by decide +kernel
theorem dX3_allBetween_2 : decode cX3_allBetween 2 = .ok (.iload_n 3, 1) := by decide +kernel
theorem dX3_allBetween_3 : decode cX3_allBetween 3 = .ok (.aload_n 0, 1) := by decide +kernel
theorem dX3_allBetween_4 : decode cX3_allBetween 4 = .ok (.getfield 15, 3) := by decide +kernel
theorem dX3_allBetween_7 : decode cX3_allBetween 7 = .ok (.if_icmp .ge 25, 3) := by decide +kernel
theorem dX3_allBetween_10 : decode cX3_allBetween 10 = .ok (.aload_n 0, 1) := by decide +kernel
theorem dX3_allBetween_11 : decode cX3_allBetween 11 = .ok (.getfield 18, 3) := by decide +kernel
theorem dX3_allBetween_14 : decode cX3_allBetween 14 = .ok (.iload_n 3, 1) := by decide +kernel
theorem dX3_allBetween_15 : decode cX3_allBetween 15 = .ok (.iaload, 1) := by decide +kernel
theorem dX3_allBetween_16 : decode cX3_allBetween 16 = .ok (.iload_n 1, 1) := by decide +kernel
theorem dX3_allBetween_17 : decode cX3_allBetween 17 = .ok (.iload_n 2, 1) := by decide +kernel
theorem dX3_allBetween_18 : decode cX3_allBetween 18 = .ok (.invokestatic 28, 3) := by decide +kernel
theorem dX3_allBetween_21 : decode cX3_allBetween 21 = .ok (.ifCond .ne 5, 3) := by decide +kernel
theorem dX3_allBetween_24 : decode cX3_allBetween 24 = .ok (.iconst 0, 1) := by decide +kernel
theorem dX3_allBetween_25 : decode cX3_allBetween 25 = .ok (.ireturn, 1) := by decide +kernel
theorem dX3_allBetween_26 : decode cX3_allBetween 26 = .ok (.iinc 3 1, 3) := by decide +kernel
theorem dX3_allBetween_29 : decode cX3_allBetween 29 = .ok (.goto (-27), 3) := by decide +kernel
theorem dX3_allBetween_32 : decode cX3_allBetween 32 = .ok (.iconst 1, 1) := by decide +kernel
theorem dX3_allBetween_33 : decode cX3_allBetween 33 = .ok (.ireturn, 1) := by decide +kernel
theorem dX4_init_0 : decode cX4_init 0 = .ok (.aload_n 0, 1) := by decide +kernel
theorem dX4_init_1 : decode cX4_init 1 = .ok (.invokespecial 3, 3) := by decide +kernel
theorem dX4_init_4 : decode cX4_init 4 = .ok (.aload_n 0, 1) := by decide +kernel
theorem dX4_init_5 : decode cX4_init 5 = .ok (.sipush 160, 3) := by decide +kernel
theorem dX4_init_8 : decode cX4_init 8 = .ok (.newarray .int, 2) := by decide +kernel
theorem dX4_init_10 : decode cX4_init 10 = .ok (.putfield 9, 3) := by decide +kernel
theorem dX4_init_13 : decode cX4_init 13 = .ok (.aload_n 0, 1) := by decide +kernel
theorem dX4_init_14 : decode cX4_init 14 = .ok (.iconst 0, 1) := by decide +kernel
theorem dX4_init_15 : decode cX4_init 15 = .ok (.putfield 15, 3) := by decide +kernel
theorem dX4_init_18 : decode cX4_init 18 = .ok (.aload_n 0, 1) := by decide +kernel
theorem dX4_init_19 : decode cX4_init 19 = .ok (.iconst 0, 1) := by decide +kernel
theorem dX4_init_20 : decode cX4_init 20 = .ok (.putfield 19, 3) := by decide +kernel
theorem dX4_init_23 : decode cX4_init 23 = .ok (.aload_n 0, 1) := by decide +kernel
theorem dX4_init_24 : decode cX4_init 24 = .ok (.iconst 0, 1) := by decide +kernel
theorem dX4_init_25 : decode cX4_init 25 = .ok (.putfield 22, 3) := by decide +kernel
theorem dX4_init_28 : decode cX4_init 28 = .ok (.aload_n 0, 1) := by decide +kernel
theorem dX4_init_29 : decode cX4_init 29 = .ok (.iconst 0, 1) := by decide +kernel
theorem dX4_init_30 : decode cX4_init 30 = .ok (.putfield 25, 3) := by decide +kernel
theorem dX4_init_33 : decode cX4_init 33 = .ok (.aload_n 0, 1) := by decide +kernel
theorem dX4_init_34 : decode cX4_init 34 = .ok (.iconst (-1), 1) := by decide +kernel
theorem dX4_init_35 : decode cX4_init 35 = .ok (.putfield 28, 3) := by decide +kernel
theorem dX4_init_38 : decode cX4_init 38 = .ok (.return_, 1) := by decide +kernel
theorem dX4_append_0 : decode cX4_append 0 = .ok (.aload_n 0, 1) := by decide +kernel
theorem dX4_append_1 : decode cX4_append 1 = .ok (.getfield 15, 3) := by decide +kernel
theorem dX4_append_4 : decode cX4_append 4 = .ok (.sipush 160, 3) := by decide +kernel
theorem dX4_append_7 : decode cX4_append 7 = .ok (.if_icmp .lt 4, 3) := by decide +kernel
theorem dX4_append_10 : decode cX4_append 10 = .ok (.return_, 1) := by decide +kernel
theorem dX4_append_11 : decode cX4_append 11 = .ok (.aload_n 0, 1) := by decide +kernel
theorem dX4_append_12 : decode cX4_append 12 = .ok (.getfield 9, 3) := by decide +kernel
theorem dX4_append_15 : decode cX4_append 15 = .ok (.aload_n 0, 1) := by decide +kernel
theorem dX4_append_16 : decode cX4_append 16 = .ok (.getfield 15, 3) := by decide +kernel
theorem dX4_append_19 : decode cX4_append 19 = .ok (.iload_n 1, 1) := by decide +kernel
theorem dX4_append_20 : decode cX4_append 20 = .ok (.iastore, 1) := by decide +kernel
theorem dX4_append_21 : decode cX4_append 21 = .ok (.aload_n 0, 1) := by decide +kernel
theorem dX4_append_22 : decode cX4_append 22 = .ok (.dup, 1) := by decide +kernel
theorem dX4_append_23 : decode cX4_append 23 = .ok (.getfield 15, 3) := by decide +kernel
theorem dX4_append_26 : decode cX4_append 26 = .ok (.iconst 1, 1) := by decide +kernel
theorem dX4_append_27 : decode cX4_append 27 = .ok (.iadd, 1) := by decide +kernel
theorem dX4_append_28 : decode cX4_append 28 = .ok (.putfield 15, 3) := by decide +kernel
theorem dX4_append_31 : decode cX4_append 31 = .ok (.return_, 1) := by decide +kernel
theorem dX4_empty_0 : decode cX4_empty 0 = .ok (.aload_n 0, 1) := by decide +kernel
theorem dX4_empty_1 : decode cX4_empty 1 = .ok (.iconst 0, 1) := by decide +kernel
theorem dX4_empty_2 : decode cX4_empty 2 = .ok (.putfield 15, 3) := by decide +kernel
theorem dX4_empty_5 : decode cX4_empty 5 = .ok (.return_, 1) := by decide +kernel
theorem dX4_read_0 : decode cX4_read 0 = .ok (.aload_n 0, 1) := by decide +kernel
theorem dX4_read_1 : decode cX4_read 1 = .ok (.iconst 0, 1) := by decide +kernel
theorem dX4_read_2 : decode cX4_read 2 = .ok (.putfield 19, 3) := by decide +kernel
theorem dX4_read_5 : decode cX4_read 5 = .ok (.aload_n 0, 1) := by decide +kernel
theorem dX4_read_6 : decode cX4_read 6 = .ok (.iconst (-1), 1) := by decide +kernel
theorem dX4_read_7 : decode cX4_read 7 = .ok (.putfield 28, 3) := by decide +kernel
theorem dX4_read_10 : decode cX4_read 10 = .ok (.aload_n 1, 1) := by decide +kernel
theorem dX4_read_11 : decode cX4_read 11 = .ok (.invokevirtual 31, 3) := by decide +kernel
theorem dX4_read_14 : decode cX4_read 14 = .ok (.aload_n 0, 1) := by decide +kernel
theorem dX4_read_15 : decode cX4_read 15 = .ok (.invokevirtual 36, 3) := by decide +kernel
theorem dX4_read_18 : decode cX4_read 18 = .ok (.iconst 0, 1) := by decide +kernel
theorem dX4_read_19 : decode cX4_read 19 = .ok (.istore_n 2, 1) := by decide +kernel
theorem dX4_read_20 : decode cX4_read 20 = .ok (.iload_n 2, 1) := by decide +kernel
theorem dX4_read_21 : decode cX4_read 21 = .ok (.iconst 3, 1) := by decide +kernel
theorem dX4_read_22 : decode cX4_read 22 = .ok (.if_icmp .ge 35, 3) := by decide +kernel
theorem dX4_read_25 : decode cX4_read 25 = .ok (.aload_n 0, 1) := by decide +kernel
theorem dX4_read_26 : decode cX4_read 26 = .ok (.sipush 270, 3) := by decide +kernel
theorem dX4_read_29 : decode cX4_read 29 = .ok (.iload_n 2, 1) := by decide +kernel
theorem dX4_read_30 : decode cX4_read 30 = .ok (.iadd, 1) := by decide +kernel
theorem dX4_read_31 : decode cX4_read 31 = .ok (.invokevirtual 39, 3) := by decide +kernel
theorem dX4_read_34 : decode cX4_read 34 = .ok (.aload_n 1, 1) := by decide +kernel
theorem dX4_read_35 : decode cX4_read 35 = .ok (.iload_n 2, 1) := by decide +kernel
theorem dX4_read_36 : decode cX4_read 36 = .ok (.invokevirtual 43, 3) := by decide +kernel
theorem dX4_read_39 : decode cX4_read 39 = .ok (.aload_n 0, 1) := by decide +kernel
theorem dX4_read_40 : decode cX4_read 40 = .ok (.aload_n 1, 1) := by decide +kernel
theorem dX4_read_41 : decode cX4_read 41 = .ok (.iconst 0, 1) := by decide +kernel
theorem dX4_read_42 : decode cX4_read 42 = .ok (.invokevirtual 46, 3) := by decide +kernel
theorem dX4_read_45 : decode cX4_read 45 = .ok (.aload_n 0, 1) := by decide +kernel
theorem dX4_read_46 : decode cX4_read 46 = .ok (.bipush 59, 2) := by decide +kernel
theorem dX4_read_48 : decode cX4_read 48 = .ok (.invokevirtual 39, 3) := by decide +kernel
theorem dX4_read_51 : decode cX4_read 51 = .ok (.iinc 2 1, 3) := by decide +kernel
theorem dX4_read_54 : decode cX4_read 54 = .ok (.goto (-34), 3) := by decide +kernel
theorem dX4_read_57 : decode cX4_read 57 = .ok (.aload_n 1, 1) := by decide +kernel
theorem dX4_read_58 : decode cX4_read 58 = .ok (.invokevirtual 50, 3) := by decide +kernel
theorem dX4_read_61 : decode cX4_read 61 = .ok (.aload_n 0, 1) := by decide +kernel
theorem dX4_read_62 : decode cX4_read 62 = .ok (.iconst 1, 1) := by decide +kernel
theorem dX4_read_63 : decode cX4_read 63 = .ok (.invokevirtual 39, 3) := by decide +kernel
theorem dX4_read_66 : decode cX4_read 66 = .ok (.aload_n 0, 1) := by decide +kernel
theorem dX4_read_67 : decode cX4_read 67 = .ok (.getfield 28, 3) := by decide +kernel
theorem dX4_read_70 : decode cX4_read 70 = .ok (.ireturn, 1) := by decide +kernel
theorem dX4_expect_0 : decode cX4_expect 0 = .ok (.aload_n 0, 1) := by decide +kernel
theorem dX4_expect_1 : decode cX4_expect 1 = .ok (.getfield 22, 3) := by decide +kernel
theorem dX4_expect_4 : decode cX4_expect 4 = .ok (.iload_n 1, 1) := by decide +kernel
theorem dX4_expect_5 : decode cX4_expect 5 = .ok (.if_icmp .ne 10, 3) := by decide +kernel
theorem dX4_expect_8 : decode cX4_expect 8 = .ok (.aload_n 0, 1) := by decide +kernel
theorem dX4_expect_9 : decode cX4_expect 9 = .ok (.invokevirtual 36, 3) := by decide +kernel
theorem dX4_expect_12 : decode cX4_expect 12 = .ok (.goto 7, 3) := by decide +kernel
theorem dX4_expect_15 : decode cX4_expect 15 = .ok (.aload_n 0, 1) := by decide +kernel
theorem dX4_expect_16 : decode cX4_expect 16 = .ok (.invokevirtual 53, 3) := by decide +kernel
theorem dX4_expect_19 : decode cX4_expect 19 = .ok (.return_, 1) := by decide +kernel
theorem dX4_refuse_0 : decode cX4_refuse 0 = .ok (.aload_n 0, 1) := by decide +kernel
theorem dX4_refuse_1 : decode cX4_refuse 1 = .ok (.getfield 28, 3) := by decide +kernel
theorem dX4_refuse_4 : decode cX4_refuse 4 = .ok (.iconst (-1), 1) := by decide +kernel
theorem dX4_refuse_5 : decode cX4_refuse 5 = .ok (.if_icmp .ne 11, 3) := by decide +kernel
theorem dX4_refuse_8 : decode cX4_refuse 8 = .ok (.aload_n 0, 1) := by decide +kernel
theorem dX4_refuse_9 : decode cX4_refuse 9 = .ok (.aload_n 0, 1) := by decide +kernel
theorem dX4_refuse_10 : decode cX4_refuse 10 = .ok (.getfield 25, 3) := by decide +kernel
theorem dX4_refuse_13 : decode cX4_refuse 13 = .ok (.putfield 28, 3) := by decide +kernel
theorem dX4_refuse_16 : decode cX4_refuse 16 = .ok (.aload_n 0, 1) := by decide +kernel
theorem dX4_refuse_17 : decode cX4_refuse 17 = .ok (.iconst 0, 1) := by decide +kernel
theorem dX4_refuse_18 : decode cX4_refuse 18 = .ok (.putfield 22, 3) := by decide +kernel
theorem dX4_refuse_21 : decode cX4_refuse 21 = .ok (.return_, 1) := by decide +kernel
theorem dX4_readOr_0 : decode cX4_readOr 0 = .ok (.aload_n 0, 1) := by decide +kernel
theorem dX4_readOr_1 : decode cX4_readOr 1 = .ok (.aload_n 1, 1) := by decide +kernel
theorem dX4_readOr_2 : decode cX4_readOr 2 = .ok (.iload_n 2, 1) := by decide +kernel
theorem dX4_readOr_3 : decode cX4_readOr 3 = .ok (.invokevirtual 56, 3) := by decide +kernel
theorem dX4_readOr_6 : decode cX4_readOr 6 = .ok (.iconst 0, 1) := by decide +kernel
theorem dX4_readOr_7 : decode cX4_readOr 7 = .ok (.istore_n 3, 1) := by decide +kernel
theorem dX4_readOr_8 : decode cX4_readOr 8 = .ok (.iload_n 3, 1) := by decide +kernel
theorem dX4_readOr_9 : decode cX4_readOr 9 = .ok (.sipush 160, 3) := by decide +kernel
theorem dX4_readOr_12 : decode cX4_readOr 12 = .ok (.if_icmp .ge 36, 3) := by decide +kernel
theorem dX4_readOr_15 : decode cX4_readOr 15 = .ok (.aload_n 0, 1) := by decide +kernel
theorem dX4_readOr_16 : decode cX4_readOr 16 = .ok (.getfield 22, 3) := by decide +kernel
theorem dX4_readOr_19 : decode cX4_readOr 19 = .ok (.sipush 256, 3) := by decide +kernel
theorem dX4_readOr_22 : decode cX4_readOr 22 = .ok (.if_icmp .ne 26, 3) := by decide +kernel
theorem dX4_readOr_25 : decode cX4_readOr 25 = .ok (.aload_n 0, 1) := by decide +kernel
theorem dX4_readOr_26 : decode cX4_readOr 26 = .ok (.invokevirtual 36, 3) := by decide +kernel
theorem dX4_readOr_29 : decode cX4_readOr 29 = .ok (.aload_n 0, 1) := by decide +kernel
theorem dX4_readOr_30 : decode cX4_readOr 30 = .ok (.aload_n 1, 1) := by decide +kernel
theorem dX4_readOr_31 : decode cX4_readOr 31 = .ok (.iload_n 2, 1) := by decide +kernel
theorem dX4_readOr_32 : decode cX4_readOr 32 = .ok (.invokevirtual 56, 3) := by decide +kernel
theorem dX4_readOr_35 : decode cX4_readOr 35 = .ok (.aload_n 1, 1) := by decide +kernel
theorem dX4_readOr_36 : decode cX4_readOr 36 = .ok (.sipush 256, 3) := by decide +kernel
theorem dX4_readOr_39 : decode cX4_readOr 39 = .ok (.invokevirtual 59, 3) := by decide +kernel
theorem dX4_readOr_42 : decode cX4_readOr 42 = .ok (.iinc 3 1, 3) := by decide +kernel
theorem dX4_readOr_45 : decode cX4_readOr 45 = .ok (.goto (-37), 3) := by decide +kernel
theorem dX4_readOr_48 : decode cX4_readOr 48 = .ok (.return_, 1) := by decide +kernel
theorem dX4_readAnd_0 : decode cX4_readAnd 0 = .ok (.aload_n 0, 1) := by decide +kernel
theorem dX4_readAnd_1 : decode cX4_readAnd 1 = .ok (.aload_n 1, 1) := by decide +kernel
theorem dX4_readAnd_2 : decode cX4_readAnd 2 = .ok (.iload_n 2, 1) := by decide +kernel
theorem dX4_readAnd_3 : decode cX4_readAnd 3 = .ok (.invokevirtual 62, 3) := by decide +kernel
theorem dX4_readAnd_6 : decode cX4_readAnd 6 = .ok (.iconst 0, 1) := by decide +kernel
theorem dX4_readAnd_7 : decode cX4_readAnd 7 = .ok (.istore_n 3, 1) := by decide +kernel
theorem dX4_readAnd_8 : decode cX4_readAnd 8 = .ok (.iload_n 3, 1) := by decide +kernel
theorem dX4_readAnd_9 : decode cX4_readAnd 9 = .ok (.sipush 160, 3) := by decide +kernel
theorem dX4_readAnd_12 : decode cX4_readAnd 12 = .ok (.if_icmp .ge 36, 3) := by decide +kernel
theorem dX4_readAnd_15 : decode cX4_readAnd 15 = .ok (.aload_n 0, 1) := by decide +kernel
theorem dX4_readAnd_16 : decode cX4_readAnd 16 = .ok (.getfield 22, 3) := by decide +kernel
theorem dX4_readAnd_19 : decode cX4_readAnd 19 = .ok (.sipush 257, 3) := by decide +kernel
theorem dX4_readAnd_22 : decode cX4_readAnd 22 = .ok (.if_icmp .ne 26, 3) := by decide +kernel
theorem dX4_readAnd_25 : decode cX4_readAnd 25 = .ok (.aload_n 0, 1) := by decide +kernel
theorem dX4_readAnd_26 : decode cX4_readAnd 26 = .ok (.invokevirtual 36, 3) := by decide +kernel
theorem dX4_readAnd_29 : decode cX4_readAnd 29 = .ok (.aload_n 0, 1) := by decide +kernel
theorem dX4_readAnd_30 : decode cX4_readAnd 30 = .ok (.aload_n 1, 1) := by decide +kernel
theorem dX4_readAnd_31 : decode cX4_readAnd 31 = .ok (.iload_n 2, 1) := by decide +kernel
theorem dX4_readAnd_32 : decode cX4_readAnd 32 = .ok (.invokevirtual 62, 3) := by decide +kernel
theorem dX4_readAnd_35 : decode cX4_readAnd 35 = .ok (.aload_n 1, 1) := by decide +kernel
theorem dX4_readAnd_36 : decode cX4_readAnd 36 = .ok (.sipush 257, 3) := by decide +kernel
theorem dX4_readAnd_39 : decode cX4_readAnd 39 = .ok (.invokevirtual 59, 3) := by decide +kernel
theorem dX4_readAnd_42 : decode cX4_readAnd 42 = .ok (.iinc 3 1, 3) := by decide +kernel
theorem dX4_readAnd_45 : decode cX4_readAnd 45 = .ok (.goto (-37), 3) := by decide +kernel
theorem dX4_readAnd_48 : decode cX4_readAnd 48 = .ok (.return_, 1) := by decide +kernel
theorem dX4_readNot_0 : decode cX4_readNot 0 = .ok (.aload_n 0, 1) := by decide +kernel
theorem dX4_readNot_1 : decode cX4_readNot 1 = .ok (.getfield 22, 3) := by decide +kernel
theorem dX4_readNot_4 : decode cX4_readNot 4 = .ok (.sipush 258, 3) := by decide +kernel
theorem dX4_readNot_7 : decode cX4_readNot 7 = .ok (.if_icmp .ne 32, 3) := by decide +kernel
theorem dX4_readNot_10 : decode cX4_readNot 10 = .ok (.aload_n 0, 1) := by decide +kernel
theorem dX4_readNot_11 : decode cX4_readNot 11 = .ok (.iload_n 2, 1) := by decide +kernel
theorem dX4_readNot_12 : decode cX4_readNot 12 = .ok (.invokevirtual 65, 3) := by decide +kernel
theorem dX4_readNot_15 : decode cX4_readNot 15 = .ok (.ifCond .ne 4, 3) := by decide +kernel
theorem dX4_readNot_18 : decode cX4_readNot 18 = .ok (.return_, 1) := by decide +kernel
theorem dX4_readNot_19 : decode cX4_readNot 19 = .ok (.aload_n 0, 1) := by decide +kernel
theorem dX4_readNot_20 : decode cX4_readNot 20 = .ok (.invokevirtual 36, 3) := by decide +kernel
theorem dX4_readNot_23 : decode cX4_readNot 23 = .ok (.aload_n 0, 1) := by decide +kernel
theorem dX4_readNot_24 : decode cX4_readNot 24 = .ok (.aload_n 1, 1) := by decide +kernel
theorem dX4_readNot_25 : decode cX4_readNot 25 = .ok (.iload_n 2, 1) := by decide +kernel
theorem dX4_readNot_26 : decode cX4_readNot 26 = .ok (.iconst 1, 1) := by decide +kernel
theorem dX4_readNot_27 : decode cX4_readNot 27 = .ok (.iadd, 1) := by decide +kernel
theorem dX4_readNot_28 : decode cX4_readNot 28 = .ok (.invokevirtual 62, 3) := by decide +kernel
theorem dX4_readNot_31 : decode cX4_readNot 31 = .ok (.aload_n 1, 1) := by decide +kernel
theorem dX4_readNot_32 : decode cX4_readNot 32 = .ok (.sipush 258, 3) := by decide +kernel
theorem dX4_readNot_35 : decode cX4_readNot 35 = .ok (.invokevirtual 59, 3) := by decide +kernel
theorem dX4_readNot_38 : decode cX4_readNot 38 = .ok (.return_, 1) := by decide +kernel
theorem dX4_readNot_39 : decode cX4_readNot 39 = .ok (.aload_n 0, 1) := by decide +kernel
theorem dX4_readNot_40 : decode cX4_readNot 40 = .ok (.aload_n 1, 1) := by decide +kernel
theorem dX4_readNot_41 : decode cX4_readNot 41 = .ok (.iload_n 2, 1) := by decide +kernel
theorem dX4_readNot_42 : decode cX4_readNot 42 = .ok (.invokevirtual 69, 3) := by decide +kernel
theorem dX4_readNot_45 : decode cX4_readNot 45 = .ok (.aload_n 0, 1) := by decide +kernel
theorem dX4_readNot_46 : decode cX4_readNot 46 = .ok (.getfield 22, 3) := by decide +kernel
theorem dX4_readNot_49 : decode cX4_readNot 49 = .ok (.bipush 60, 2) := by decide +kernel
theorem dX4_readNot_51 : decode cX4_readNot 51 = .ok (.if_icmp .eq 12, 3) := by decide +kernel
theorem dX4_readNot_54 : decode cX4_readNot 54 = .ok (.aload_n 0, 1) := by decide +kernel
theorem dX4_readNot_55 : decode cX4_readNot 55 = .ok (.getfield 22, 3) := by decide +kernel
theorem dX4_readNot_58 : decode cX4_readNot 58 = .ok (.bipush 61, 2) := by decide +kernel
theorem dX4_readNot_60 : decode cX4_readNot 60 = .ok (.if_icmp .ne 23, 3) := by decide +kernel
theorem dX4_readNot_63 : decode cX4_readNot 63 = .ok (.aload_n 0, 1) := by decide +kernel
theorem dX4_readNot_64 : decode cX4_readNot 64 = .ok (.getfield 22, 3) := by decide +kernel
theorem dX4_readNot_67 : decode cX4_readNot 67 = .ok (.istore_n 3, 1) := by decide +kernel
theorem dX4_readNot_68 : decode cX4_readNot 68 = .ok (.aload_n 0, 1) := by decide +kernel
theorem dX4_readNot_69 : decode cX4_readNot 69 = .ok (.invokevirtual 36, 3) := by decide +kernel
theorem dX4_readNot_72 : decode cX4_readNot 72 = .ok (.aload_n 0, 1) := by decide +kernel
theorem dX4_readNot_73 : decode cX4_readNot 73 = .ok (.aload_n 1, 1) := by decide +kernel
theorem dX4_readNot_74 : decode cX4_readNot 74 = .ok (.iload_n 2, 1) := by decide +kernel
theorem dX4_readNot_75 : decode cX4_readNot 75 = .ok (.invokevirtual 69, 3) := by decide +kernel
theorem dX4_readNot_78 : decode cX4_readNot 78 = .ok (.aload_n 1, 1) := by decide +kernel
theorem dX4_readNot_79 : decode cX4_readNot 79 = .ok (.iload_n 3, 1) := by decide +kernel
theorem dX4_readNot_80 : decode cX4_readNot 80 = .ok (.invokevirtual 59, 3) := by decide +kernel
theorem dX4_readNot_83 : decode cX4_readNot 83 = .ok (.return_, 1) := by decide +kernel
theorem dX4_readSum_0 : decode cX4_readSum 0 = .ok (.aload_n 0, 1) := by decide +kernel
theorem dX4_readSum_1 : decode cX4_readSum 1 = .ok (.aload_n 1, 1) := by decide +kernel
theorem dX4_readSum_2 : decode cX4_readSum 2 = .ok (.iload_n 2, 1) := by decide +kernel
theorem dX4_readSum_3 : decode cX4_readSum 3 = .ok (.invokevirtual 72, 3) := by decide +kernel
theorem dX4_readSum_6 : decode cX4_readSum 6 = .ok (.iconst 0, 1) := by decide +kernel
theorem dX4_readSum_7 : decode cX4_readSum 7 = .ok (.istore_n 3, 1) := by decide +kernel
theorem dX4_readSum_8 : decode cX4_readSum 8 = .ok (.iload_n 3, 1) := by decide +kernel
theorem dX4_readSum_9 : decode cX4_readSum 9 = .ok (.sipush 160, 3) := by decide +kernel
theorem dX4_readSum_12 : decode cX4_readSum 12 = .ok (.if_icmp .ge 49, 3) := by decide +kernel
theorem dX4_readSum_15 : decode cX4_readSum 15 = .ok (.aload_n 0, 1) := by decide +kernel
theorem dX4_readSum_16 : decode cX4_readSum 16 = .ok (.getfield 22, 3) := by decide +kernel
theorem dX4_readSum_19 : decode cX4_readSum 19 = .ok (.bipush 43, 2) := by decide +kernel
theorem dX4_readSum_21 : decode cX4_readSum 21 = .ok (.if_icmp .eq 12, 3) := by decide +kernel
theorem dX4_readSum_24 : decode cX4_readSum 24 = .ok (.aload_n 0, 1) := by decide +kernel
theorem dX4_readSum_25 : decode cX4_readSum 25 = .ok (.getfield 22, 3) := by decide +kernel
theorem dX4_readSum_28 : decode cX4_readSum 28 = .ok (.bipush 45, 2) := by decide +kernel
theorem dX4_readSum_30 : decode cX4_readSum 30 = .ok (.if_icmp .ne 31, 3) := by decide +kernel
theorem dX4_readSum_33 : decode cX4_readSum 33 = .ok (.aload_n 0, 1) := by decide +kernel
theorem dX4_readSum_34 : decode cX4_readSum 34 = .ok (.getfield 22, 3) := by decide +kernel
theorem dX4_readSum_37 : decode cX4_readSum 37 = .ok (.istore 4, 2) := by decide +kernel
theorem dX4_readSum_39 : decode cX4_readSum 39 = .ok (.aload_n 0, 1) := by decide +kernel
theorem dX4_readSum_40 : decode cX4_readSum 40 = .ok (.invokevirtual 36, 3) := by decide +kernel
theorem dX4_readSum_43 : decode cX4_readSum 43 = .ok (.aload_n 0, 1) := by decide +kernel
theorem dX4_readSum_44 : decode cX4_readSum 44 = .ok (.aload_n 1, 1) := by decide +kernel
theorem dX4_readSum_45 : decode cX4_readSum 45 = .ok (.iload_n 2, 1) := by decide +kernel
theorem dX4_readSum_46 : decode cX4_readSum 46 = .ok (.invokevirtual 72, 3) := by decide +kernel
theorem dX4_readSum_49 : decode cX4_readSum 49 = .ok (.aload_n 1, 1) := by decide +kernel
theorem dX4_readSum_50 : decode cX4_readSum 50 = .ok (.iload 4, 2) := by decide +kernel
theorem dX4_readSum_52 : decode cX4_readSum 52 = .ok (.invokevirtual 59, 3) := by decide +kernel
theorem dX4_readSum_55 : decode cX4_readSum 55 = .ok (.iinc 3 1, 3) := by decide +kernel
theorem dX4_readSum_58 : decode cX4_readSum 58 = .ok (.goto (-50), 3) := by decide +kernel
theorem dX4_readSum_61 : decode cX4_readSum 61 = .ok (.return_, 1) := by decide +kernel
theorem dX4_readTerm_0 : decode cX4_readTerm 0 = .ok (.aload_n 0, 1) := by decide +kernel
theorem dX4_readTerm_1 : decode cX4_readTerm 1 = .ok (.aload_n 1, 1) := by decide +kernel
theorem dX4_readTerm_2 : decode cX4_readTerm 2 = .ok (.iload_n 2, 1) := by decide +kernel
theorem dX4_readTerm_3 : decode cX4_readTerm 3 = .ok (.invokevirtual 75, 3) := by decide +kernel
theorem dX4_readTerm_6 : decode cX4_readTerm 6 = .ok (.iconst 0, 1) := by decide +kernel
theorem dX4_readTerm_7 : decode cX4_readTerm 7 = .ok (.istore_n 3, 1) := by decide +kernel
theorem dX4_readTerm_8 : decode cX4_readTerm 8 = .ok (.iload_n 3, 1) := by decide +kernel
theorem dX4_readTerm_9 : decode cX4_readTerm 9 = .ok (.sipush 160, 3) := by decide +kernel
theorem dX4_readTerm_12 : decode cX4_readTerm 12 = .ok (.if_icmp .ge 34, 3) := by decide +kernel
theorem dX4_readTerm_15 : decode cX4_readTerm 15 = .ok (.aload_n 0, 1) := by decide +kernel
theorem dX4_readTerm_16 : decode cX4_readTerm 16 = .ok (.getfield 22, 3) := by decide +kernel
theorem dX4_readTerm_19 : decode cX4_readTerm 19 = .ok (.bipush 42, 2) := by decide +kernel
theorem dX4_readTerm_21 : decode cX4_readTerm 21 = .ok (.if_icmp .ne 25, 3) := by decide +kernel
theorem dX4_readTerm_24 : decode cX4_readTerm 24 = .ok (.aload_n 0, 1) := by decide +kernel
theorem dX4_readTerm_25 : decode cX4_readTerm 25 = .ok (.invokevirtual 36, 3) := by decide +kernel
theorem dX4_readTerm_28 : decode cX4_readTerm 28 = .ok (.aload_n 0, 1) := by decide +kernel
theorem dX4_readTerm_29 : decode cX4_readTerm 29 = .ok (.aload_n 1, 1) := by decide +kernel
theorem dX4_readTerm_30 : decode cX4_readTerm 30 = .ok (.iload_n 2, 1) := by decide +kernel
theorem dX4_readTerm_31 : decode cX4_readTerm 31 = .ok (.invokevirtual 75, 3) := by decide +kernel
theorem dX4_readTerm_34 : decode cX4_readTerm 34 = .ok (.aload_n 1, 1) := by decide +kernel
theorem dX4_readTerm_35 : decode cX4_readTerm 35 = .ok (.bipush 42, 2) := by decide +kernel
theorem dX4_readTerm_37 : decode cX4_readTerm 37 = .ok (.invokevirtual 59, 3) := by decide +kernel
theorem dX4_readTerm_40 : decode cX4_readTerm 40 = .ok (.iinc 3 1, 3) := by decide +kernel
theorem dX4_readTerm_43 : decode cX4_readTerm 43 = .ok (.goto (-35), 3) := by decide +kernel
theorem dX4_readTerm_46 : decode cX4_readTerm 46 = .ok (.return_, 1) := by decide +kernel
theorem dX4_readOne_0 : decode cX4_readOne 0 = .ok (.aload_n 0, 1) := by decide +kernel
theorem dX4_readOne_1 : decode cX4_readOne 1 = .ok (.getfield 22, 3) := by decide +kernel
theorem dX4_readOne_4 : decode cX4_readOne 4 = .ok (.sipush 300, 3) := by decide +kernel
theorem dX4_readOne_7 : decode cX4_readOne 7 = .ok (.if_icmp .lt 18, 3) := by decide +kernel
theorem dX4_readOne_10 : decode cX4_readOne 10 = .ok (.aload_n 1, 1) := by decide +kernel
theorem dX4_readOne_11 : decode cX4_readOne 11 = .ok (.aload_n 0, 1) := by decide +kernel
theorem dX4_readOne_12 : decode cX4_readOne 12 = .ok (.getfield 22, 3) := by decide +kernel
theorem dX4_readOne_15 : decode cX4_readOne 15 = .ok (.invokevirtual 59, 3) := by decide +kernel
theorem dX4_readOne_18 : decode cX4_readOne 18 = .ok (.aload_n 0, 1) := by decide +kernel
theorem dX4_readOne_19 : decode cX4_readOne 19 = .ok (.invokevirtual 36, 3) := by decide +kernel
theorem dX4_readOne_22 : decode cX4_readOne 22 = .ok (.goto 86, 3) := by decide +kernel
theorem dX4_readOne_25 : decode cX4_readOne 25 = .ok (.aload_n 0, 1) := by decide +kernel
theorem dX4_readOne_26 : decode cX4_readOne 26 = .ok (.getfield 22, 3) := by decide +kernel
theorem dX4_readOne_29 : decode cX4_readOne 29 = .ok (.bipush 45, 2) := by decide +kernel
theorem dX4_readOne_31 : decode cX4_readOne 31 = .ok (.if_icmp .ne 34, 3) := by decide +kernel
theorem dX4_readOne_34 : decode cX4_readOne 34 = .ok (.aload_n 0, 1) := by decide +kernel
theorem dX4_readOne_35 : decode cX4_readOne 35 = .ok (.iload_n 2, 1) := by decide +kernel
theorem dX4_readOne_36 : decode cX4_readOne 36 = .ok (.invokevirtual 65, 3) := by decide +kernel
theorem dX4_readOne_39 : decode cX4_readOne 39 = .ok (.ifCond .ne 4, 3) := by decide +kernel
theorem dX4_readOne_42 : decode cX4_readOne 42 = .ok (.return_, 1) := by decide +kernel
theorem dX4_readOne_43 : decode cX4_readOne 43 = .ok (.aload_n 0, 1) := by decide +kernel
theorem dX4_readOne_44 : decode cX4_readOne 44 = .ok (.invokevirtual 36, 3) := by decide +kernel
theorem dX4_readOne_47 : decode cX4_readOne 47 = .ok (.aload_n 0, 1) := by decide +kernel
theorem dX4_readOne_48 : decode cX4_readOne 48 = .ok (.aload_n 1, 1) := by decide +kernel
theorem dX4_readOne_49 : decode cX4_readOne 49 = .ok (.iload_n 2, 1) := by decide +kernel
theorem dX4_readOne_50 : decode cX4_readOne 50 = .ok (.iconst 1, 1) := by decide +kernel
theorem dX4_readOne_51 : decode cX4_readOne 51 = .ok (.iadd, 1) := by decide +kernel
theorem dX4_readOne_52 : decode cX4_readOne 52 = .ok (.invokevirtual 75, 3) := by decide +kernel
theorem dX4_readOne_55 : decode cX4_readOne 55 = .ok (.aload_n 1, 1) := by decide +kernel
theorem dX4_readOne_56 : decode cX4_readOne 56 = .ok (.sipush 259, 3) := by decide +kernel
theorem dX4_readOne_59 : decode cX4_readOne 59 = .ok (.invokevirtual 59, 3) := by decide +kernel
theorem dX4_readOne_62 : decode cX4_readOne 62 = .ok (.goto 46, 3) := by decide +kernel
theorem dX4_readOne_65 : decode cX4_readOne 65 = .ok (.aload_n 0, 1) := by decide +kernel
theorem dX4_readOne_66 : decode cX4_readOne 66 = .ok (.getfield 22, 3) := by decide +kernel
theorem dX4_readOne_69 : decode cX4_readOne 69 = .ok (.bipush 40, 2) := by decide +kernel
theorem dX4_readOne_71 : decode cX4_readOne 71 = .ok (.if_icmp .ne 33, 3) := by decide +kernel
theorem dX4_readOne_74 : decode cX4_readOne 74 = .ok (.aload_n 0, 1) := by decide +kernel
theorem dX4_readOne_75 : decode cX4_readOne 75 = .ok (.iload_n 2, 1) := by decide +kernel
theorem dX4_readOne_76 : decode cX4_readOne 76 = .ok (.invokevirtual 65, 3) := by decide +kernel
theorem dX4_readOne_79 : decode cX4_readOne 79 = .ok (.ifCond .ne 4, 3) := by decide +kernel
theorem dX4_readOne_82 : decode cX4_readOne 82 = .ok (.return_, 1) := by decide +kernel
theorem dX4_readOne_83 : decode cX4_readOne 83 = .ok (.aload_n 0, 1) := by decide +kernel
theorem dX4_readOne_84 : decode cX4_readOne 84 = .ok (.invokevirtual 36, 3) := by decide +kernel
theorem dX4_readOne_87 : decode cX4_readOne 87 = .ok (.aload_n 0, 1) := by decide +kernel
theorem dX4_readOne_88 : decode cX4_readOne 88 = .ok (.aload_n 1, 1) := by decide +kernel
theorem dX4_readOne_89 : decode cX4_readOne 89 = .ok (.iload_n 2, 1) := by decide +kernel
theorem dX4_readOne_90 : decode cX4_readOne 90 = .ok (.iconst 1, 1) := by decide +kernel
theorem dX4_readOne_91 : decode cX4_readOne 91 = .ok (.iadd, 1) := by decide +kernel
theorem dX4_readOne_92 : decode cX4_readOne 92 = .ok (.invokevirtual 46, 3) := by decide +kernel
theorem dX4_readOne_95 : decode cX4_readOne 95 = .ok (.aload_n 0, 1) := by decide +kernel
theorem dX4_readOne_96 : decode cX4_readOne 96 = .ok (.bipush 41, 2) := by decide +kernel
theorem dX4_readOne_98 : decode cX4_readOne 98 = .ok (.invokevirtual 39, 3) := by decide +kernel
theorem dX4_readOne_101 : decode cX4_readOne 101 = .ok (.goto 7, 3) := by decide +kernel
theorem dX4_readOne_104 : decode cX4_readOne 104 = .ok (.aload_n 0, 1) := by decide +kernel
theorem dX4_readOne_105 : decode cX4_readOne 105 = .ok (.invokevirtual 53, 3) := by decide +kernel
theorem dX4_readOne_108 : decode cX4_readOne 108 = .ok (.return_, 1) := by decide +kernel
theorem dX4_mayOpen_0 : decode cX4_mayOpen 0 = .ok (.iload_n 1, 1) := by decide +kernel
theorem dX4_mayOpen_1 : decode cX4_mayOpen 1 = .ok (.iconst 5, 1) := by decide +kernel
theorem dX4_mayOpen_2 : decode cX4_mayOpen 2 = .ok (.if_icmp .ge 5, 3) := by decide +kernel
theorem dX4_mayOpen_5 : decode cX4_mayOpen 5 = .ok (.iconst 1, 1) := by decide +kernel
theorem dX4_mayOpen_6 : decode cX4_mayOpen 6 = .ok (.ireturn, 1) := by decide +kernel
theorem dX4_mayOpen_7 : decode cX4_mayOpen 7 = .ok (.aload_n 0, 1) := by decide +kernel
theorem dX4_mayOpen_8 : decode cX4_mayOpen 8 = .ok (.invokevirtual 53, 3) := by decide +kernel
theorem dX4_mayOpen_11 : decode cX4_mayOpen 11 = .ok (.iconst 0, 1) := by decide +kernel
theorem dX4_mayOpen_12 : decode cX4_mayOpen 12 = .ok (.ireturn, 1) := by decide +kernel
theorem dX4_next_0 : decode cX4_next 0 = .ok (.aload_n 0, 1) := by decide +kernel
theorem dX4_next_1 : decode cX4_next 1 = .ok (.getfield 19, 3) := by decide +kernel
theorem dX4_next_4 : decode cX4_next 4 = .ok (.aload_n 0, 1) := by decide +kernel
theorem dX4_next_5 : decode cX4_next 5 = .ok (.getfield 15, 3) := by decide +kernel
theorem dX4_next_8 : decode cX4_next 8 = .ok (.if_icmp .ge 44, 3) := by decide +kernel
theorem dX4_next_11 : decode cX4_next 11 = .ok (.aload_n 0, 1) := by decide +kernel
theorem dX4_next_12 : decode cX4_next 12 = .ok (.getfield 9, 3) := by decide +kernel
theorem dX4_next_15 : decode cX4_next 15 = .ok (.aload_n 0, 1) := by decide +kernel
theorem dX4_next_16 : decode cX4_next 16 = .ok (.getfield 19, 3) := by decide +kernel
theorem dX4_next_19 : decode cX4_next 19 = .ok (.iaload, 1) := by decide +kernel
theorem dX4_next_20 : decode cX4_next 20 = .ok (.bipush 32, 2) := by decide +kernel
theorem dX4_next_22 : decode cX4_next 22 = .ok (.if_icmp .eq 17, 3) := by decide +kernel
theorem dX4_next_25 : decode cX4_next 25 = .ok (.aload_n 0, 1) := by decide +kernel
theorem dX4_next_26 : decode cX4_next 26 = .ok (.getfield 9, 3) := by decide +kernel
theorem dX4_next_29 : decode cX4_next 29 = .ok (.aload_n 0, 1) := by decide +kernel
theorem dX4_next_30 : decode cX4_next 30 = .ok (.getfield 19, 3) := by decide +kernel
theorem dX4_next_33 : decode cX4_next 33 = .ok (.iaload, 1) := by decide +kernel
theorem dX4_next_34 : decode cX4_next 34 = .ok (.bipush 10, 2) := by decide +kernel
theorem dX4_next_36 : decode cX4_next 36 = .ok (.if_icmp .ne 16, 3) := by decide +kernel
theorem dX4_next_39 : decode cX4_next 39 = .ok (.aload_n 0, 1) := by decide +kernel
theorem dX4_next_40 : decode cX4_next 40 = .ok (.dup, 1) := by decide +kernel
theorem dX4_next_41 : decode cX4_next 41 = .ok (.getfield 19, 3) := by decide +kernel
theorem dX4_next_44 : decode cX4_next 44 = .ok (.iconst 1, 1) := by decide +kernel
theorem dX4_next_45 : decode cX4_next 45 = .ok (.iadd, 1) := by decide +kernel
theorem dX4_next_46 : decode cX4_next 46 = .ok (.putfield 19, 3) := by decide +kernel
theorem dX4_next_49 : decode cX4_next 49 = .ok (.goto (-49), 3) := by decide +kernel
theorem dX4_next_52 : decode cX4_next 52 = .ok (.aload_n 0, 1) := by decide +kernel
theorem dX4_next_53 : decode cX4_next 53 = .ok (.aload_n 0, 1) := by decide +kernel
theorem dX4_next_54 : decode cX4_next 54 = .ok (.getfield 19, 3) := by decide +kernel
theorem dX4_next_57 : decode cX4_next 57 = .ok (.putfield 25, 3) := by decide +kernel
theorem dX4_next_60 : decode cX4_next 60 = .ok (.aload_n 0, 1) := by decide +kernel
theorem dX4_next_61 : decode cX4_next 61 = .ok (.getfield 19, 3) := by decide +kernel
theorem dX4_next_64 : decode cX4_next 64 = .ok (.aload_n 0, 1) := by decide +kernel
theorem dX4_next_65 : decode cX4_next 65 = .ok (.getfield 15, 3) := by decide +kernel
theorem dX4_next_68 : decode cX4_next 68 = .ok (.if_icmp .lt 11, 3) := by decide +kernel
theorem dX4_next_71 : decode cX4_next 71 = .ok (.aload_n 0, 1) := by decide +kernel
theorem dX4_next_72 : decode cX4_next 72 = .ok (.iconst 1, 1) := by decide +kernel
theorem dX4_next_73 : decode cX4_next 73 = .ok (.putfield 22, 3) := by decide +kernel
theorem dX4_next_76 : decode cX4_next 76 = .ok (.goto 159, 3) := by decide +kernel
theorem dX4_next_79 : decode cX4_next 79 = .ok (.aload_n 0, 1) := by decide +kernel
theorem dX4_next_80 : decode cX4_next 80 = .ok (.getfield 9, 3) := by decide +kernel
theorem dX4_next_83 : decode cX4_next 83 = .ok (.aload_n 0, 1) := by decide +kernel
theorem dX4_next_84 : decode cX4_next 84 = .ok (.getfield 19, 3) := by decide +kernel
theorem dX4_next_87 : decode cX4_next 87 = .ok (.iaload, 1) := by decide +kernel
theorem dX4_next_88 : decode cX4_next 88 = .ok (.invokestatic 78, 3) := by decide +kernel
theorem dX4_next_91 : decode cX4_next 91 = .ok (.ifCond .eq 53, 3) := by decide +kernel
theorem dX4_next_94 : decode cX4_next 94 = .ok (.aload_n 0, 1) := by decide +kernel
theorem dX4_next_95 : decode cX4_next 95 = .ok (.getfield 19, 3) := by decide +kernel
theorem dX4_next_98 : decode cX4_next 98 = .ok (.aload_n 0, 1) := by decide +kernel
theorem dX4_next_99 : decode cX4_next 99 = .ok (.getfield 15, 3) := by decide +kernel
theorem dX4_next_102 : decode cX4_next 102 = .ok (.if_icmp .ge 31, 3) := by decide +kernel
theorem dX4_next_105 : decode cX4_next 105 = .ok (.aload_n 0, 1) := by decide +kernel
theorem dX4_next_106 : decode cX4_next 106 = .ok (.getfield 9, 3) := by decide +kernel
theorem dX4_next_109 : decode cX4_next 109 = .ok (.aload_n 0, 1) := by decide +kernel
theorem dX4_next_110 : decode cX4_next 110 = .ok (.getfield 19, 3) := by decide +kernel
theorem dX4_next_113 : decode cX4_next 113 = .ok (.iaload, 1) := by decide +kernel
theorem dX4_next_114 : decode cX4_next 114 = .ok (.invokestatic 78, 3) := by decide +kernel
theorem dX4_next_117 : decode cX4_next 117 = .ok (.ifCond .eq 16, 3) := by decide +kernel
theorem dX4_next_120 : decode cX4_next 120 = .ok (.aload_n 0, 1) := by decide +kernel
theorem dX4_next_121 : decode cX4_next 121 = .ok (.dup, 1) := by decide +kernel
theorem dX4_next_122 : decode cX4_next 122 = .ok (.getfield 19, 3) := by decide +kernel
theorem dX4_next_125 : decode cX4_next 125 = .ok (.iconst 1, 1) := by decide +kernel
theorem dX4_next_126 : decode cX4_next 126 = .ok (.iadd, 1) := by decide +kernel
theorem dX4_next_127 : decode cX4_next 127 = .ok (.putfield 19, 3) := by decide +kernel
theorem dX4_next_130 : decode cX4_next 130 = .ok (.goto (-36), 3) := by decide +kernel
theorem dX4_next_133 : decode cX4_next 133 = .ok (.aload_n 0, 1) := by decide +kernel
theorem dX4_next_134 : decode cX4_next 134 = .ok (.aload_n 0, 1) := by decide +kernel
theorem dX4_next_135 : decode cX4_next 135 = .ok (.invokevirtual 81, 3) := by decide +kernel
theorem dX4_next_138 : decode cX4_next 138 = .ok (.putfield 22, 3) := by decide +kernel
theorem dX4_next_141 : decode cX4_next 141 = .ok (.goto 94, 3) := by decide +kernel
theorem dX4_next_144 : decode cX4_next 144 = .ok (.aload_n 0, 1) := by decide +kernel
theorem dX4_next_145 : decode cX4_next 145 = .ok (.getfield 9, 3) := by decide +kernel
theorem dX4_next_148 : decode cX4_next 148 = .ok (.aload_n 0, 1) := by decide +kernel
theorem dX4_next_149 : decode cX4_next 149 = .ok (.getfield 19, 3) := by decide +kernel
theorem dX4_next_152 : decode cX4_next 152 = .ok (.iaload, 1) := by decide +kernel
theorem dX4_next_153 : decode cX4_next 153 = .ok (.invokestatic 85, 3) := by decide +kernel
theorem dX4_next_156 : decode cX4_next 156 = .ok (.ifCond .eq 53, 3) := by decide +kernel
theorem dX4_next_159 : decode cX4_next 159 = .ok (.aload_n 0, 1) := by decide +kernel
theorem dX4_next_160 : decode cX4_next 160 = .ok (.getfield 19, 3) := by decide +kernel
theorem dX4_next_163 : decode cX4_next 163 = .ok (.aload_n 0, 1) := by decide +kernel
theorem dX4_next_164 : decode cX4_next 164 = .ok (.getfield 15, 3) := by decide +kernel
theorem dX4_next_167 : decode cX4_next 167 = .ok (.if_icmp .ge 31, 3) := by decide +kernel
theorem dX4_next_170 : decode cX4_next 170 = .ok (.aload_n 0, 1) := by decide +kernel
theorem dX4_next_171 : decode cX4_next 171 = .ok (.getfield 9, 3) := by decide +kernel
theorem dX4_next_174 : decode cX4_next 174 = .ok (.aload_n 0, 1) := by decide +kernel
theorem dX4_next_175 : decode cX4_next 175 = .ok (.getfield 19, 3) := by decide +kernel
theorem dX4_next_178 : decode cX4_next 178 = .ok (.iaload, 1) := by decide +kernel
theorem dX4_next_179 : decode cX4_next 179 = .ok (.invokestatic 85, 3) := by decide +kernel
theorem dX4_next_182 : decode cX4_next 182 = .ok (.ifCond .eq 16, 3) := by decide +kernel
theorem dX4_next_185 : decode cX4_next 185 = .ok (.aload_n 0, 1) := by decide +kernel
theorem dX4_next_186 : decode cX4_next 186 = .ok (.dup, 1) := by decide +kernel
theorem dX4_next_187 : decode cX4_next 187 = .ok (.getfield 19, 3) := by decide +kernel
theorem dX4_next_190 : decode cX4_next 190 = .ok (.iconst 1, 1) := by decide +kernel
theorem dX4_next_191 : decode cX4_next 191 = .ok (.iadd, 1) := by decide +kernel
theorem dX4_next_192 : decode cX4_next 192 = .ok (.putfield 19, 3) := by decide +kernel
theorem dX4_next_195 : decode cX4_next 195 = .ok (.goto (-36), 3) := by decide +kernel
theorem dX4_next_198 : decode cX4_next 198 = .ok (.aload_n 0, 1) := by decide +kernel
theorem dX4_next_199 : decode cX4_next 199 = .ok (.aload_n 0, 1) := by decide +kernel
theorem dX4_next_200 : decode cX4_next 200 = .ok (.invokevirtual 88, 3) := by decide +kernel
theorem dX4_next_203 : decode cX4_next 203 = .ok (.putfield 22, 3) := by decide +kernel
theorem dX4_next_206 : decode cX4_next 206 = .ok (.goto 29, 3) := by decide +kernel
theorem dX4_next_209 : decode cX4_next 209 = .ok (.aload_n 0, 1) := by decide +kernel
theorem dX4_next_210 : decode cX4_next 210 = .ok (.aload_n 0, 1) := by decide +kernel
theorem dX4_next_211 : decode cX4_next 211 = .ok (.getfield 9, 3) := by decide +kernel
theorem dX4_next_214 : decode cX4_next 214 = .ok (.aload_n 0, 1) := by decide +kernel
theorem dX4_next_215 : decode cX4_next 215 = .ok (.getfield 19, 3) := by decide +kernel
theorem dX4_next_218 : decode cX4_next 218 = .ok (.iaload, 1) := by decide +kernel
theorem dX4_next_219 : decode cX4_next 219 = .ok (.invokestatic 91, 3) := by decide +kernel
theorem dX4_next_222 : decode cX4_next 222 = .ok (.putfield 22, 3) := by decide +kernel
theorem dX4_next_225 : decode cX4_next 225 = .ok (.aload_n 0, 1) := by decide +kernel
theorem dX4_next_226 : decode cX4_next 226 = .ok (.dup, 1) := by decide +kernel
theorem dX4_next_227 : decode cX4_next 227 = .ok (.getfield 19, 3) := by decide +kernel
theorem dX4_next_230 : decode cX4_next 230 = .ok (.iconst 1, 1) := by decide +kernel
theorem dX4_next_231 : decode cX4_next 231 = .ok (.iadd, 1) := by decide +kernel
theorem dX4_next_232 : decode cX4_next 232 = .ok (.putfield 19, 3) := by decide +kernel
theorem dX4_next_235 : decode cX4_next 235 = .ok (.return_, 1) := by decide +kernel
theorem dX4_isLetter_0 : decode cX4_isLetter 0 = .ok (.iload_n 0, 1) := by decide +kernel
theorem dX4_isLetter_1 : decode cX4_isLetter 1 = .ok (.bipush 97, 2) := by decide +kernel
theorem dX4_isLetter_3 : decode cX4_isLetter 3 = .ok (.bipush 122, 2) := by decide +kernel
theorem dX4_isLetter_5 : decode cX4_isLetter 5 = .ok (.invokestatic 95, 3) := by decide +kernel
theorem dX4_isLetter_8 : decode cX4_isLetter 8 = .ok (.ireturn, 1) := by decide +kernel
theorem dX4_isDigit_0 : decode cX4_isDigit 0 = .ok (.iload_n 0, 1) := by decide +kernel
theorem dX4_isDigit_1 : decode cX4_isDigit 1 = .ok (.bipush 48, 2) := by decide +kernel
theorem dX4_isDigit_3 : decode cX4_isDigit 3 = .ok (.bipush 57, 2) := by decide +kernel
theorem dX4_isDigit_5 : decode cX4_isDigit 5 = .ok (.invokestatic 95, 3) := by decide +kernel
theorem dX4_isDigit_8 : decode cX4_isDigit 8 = .ok (.ireturn, 1) := by decide +kernel
theorem dX4_signToken_0 : decode cX4_signToken 0 = .ok (.iload_n 0, 1) := by decide +kernel
theorem dX4_signToken_1 : decode cX4_signToken 1 = .ok (.tableswitch 105 40 61 #[103, 103, 103, 103, 105, 103, 105, 105, 105, 105, 105, 105, 105, 105, 105, 105, 105, 105, 105, 103, 103, 103], 103) := by decide +kernel
theorem dX4_signToken_104 : decode cX4_signToken 104 = .ok (.iload_n 0, 1) := by decide +kernel
theorem dX4_signToken_105 : decode cX4_signToken 105 = .ok (.ireturn, 1) := by decide +kernel
theorem dX4_signToken_106 : decode cX4_signToken 106 = .ok (.iconst 0, 1) := by decide +kernel
theorem dX4_signToken_107 : decode cX4_signToken 107 = .ok (.ireturn, 1) := by decide +kernel
theorem dX4_numberToken_0 : decode cX4_numberToken 0 = .ok (.aload_n 0, 1) := by decide +kernel
theorem dX4_numberToken_1 : decode cX4_numberToken 1 = .ok (.getfield 19, 3) := by decide +kernel
theorem dX4_numberToken_4 : decode cX4_numberToken 4 = .ok (.aload_n 0, 1) := by decide +kernel
theorem dX4_numberToken_5 : decode cX4_numberToken 5 = .ok (.getfield 25, 3) := by decide +kernel
theorem dX4_numberToken_8 : decode cX4_numberToken 8 = .ok (.isub, 1) := by decide +kernel
theorem dX4_numberToken_9 : decode cX4_numberToken 9 = .ok (.iconst 4, 1) := by decide +kernel
theorem dX4_numberToken_10 : decode cX4_numberToken 10 = .ok (.if_icmp .le 5, 3) := by decide +kernel
theorem dX4_numberToken_13 : decode cX4_numberToken 13 = .ok (.iconst 0, 1) := by decide +kernel
theorem dX4_numberToken_14 : decode cX4_numberToken 14 = .ok (.ireturn, 1) := by decide +kernel
theorem dX4_numberToken_15 : decode cX4_numberToken 15 = .ok (.iconst 0, 1) := by decide +kernel
theorem dX4_numberToken_16 : decode cX4_numberToken 16 = .ok (.istore_n 1, 1) := by decide +kernel
theorem dX4_numberToken_17 : decode cX4_numberToken 17 = .ok (.aload_n 0, 1) := by decide +kernel
theorem dX4_numberToken_18 : decode cX4_numberToken 18 = .ok (.getfield 25, 3) := by decide +kernel
theorem dX4_numberToken_21 : decode cX4_numberToken 21 = .ok (.istore_n 2, 1) := by decide +kernel
theorem dX4_numberToken_22 : decode cX4_numberToken 22 = .ok (.iload_n 2, 1) := by decide +kernel
theorem dX4_numberToken_23 : decode cX4_numberToken 23 = .ok (.aload_n 0, 1) := by decide +kernel
theorem dX4_numberToken_24 : decode cX4_numberToken 24 = .ok (.getfield 19, 3) := by decide +kernel
theorem dX4_numberToken_27 : decode cX4_numberToken 27 = .ok (.if_icmp .ge 24, 3) := by decide +kernel
theorem dX4_numberToken_30 : decode cX4_numberToken 30 = .ok (.bipush 10, 2) := by decide +kernel
theorem dX4_numberToken_32 : decode cX4_numberToken 32 = .ok (.iload_n 1, 1) := by decide +kernel
theorem dX4_numberToken_33 : decode cX4_numberToken 33 = .ok (.imul, 1) := by decide +kernel
theorem dX4_numberToken_34 : decode cX4_numberToken 34 = .ok (.aload_n 0, 1) := by decide +kernel
theorem dX4_numberToken_35 : decode cX4_numberToken 35 = .ok (.getfield 9, 3) := by decide +kernel
theorem dX4_numberToken_38 : decode cX4_numberToken 38 = .ok (.iload_n 2, 1) := by decide +kernel
theorem dX4_numberToken_39 : decode cX4_numberToken 39 = .ok (.iaload, 1) := by decide +kernel
theorem dX4_numberToken_40 : decode cX4_numberToken 40 = .ok (.iadd, 1) := by decide +kernel
theorem dX4_numberToken_41 : decode cX4_numberToken 41 = .ok (.bipush 48, 2) := by decide +kernel
theorem dX4_numberToken_43 : decode cX4_numberToken 43 = .ok (.isub, 1) := by decide +kernel
theorem dX4_numberToken_44 : decode cX4_numberToken 44 = .ok (.istore_n 1, 1) := by decide +kernel
theorem dX4_numberToken_45 : decode cX4_numberToken 45 = .ok (.iinc 2 1, 3) := by decide +kernel
theorem dX4_numberToken_48 : decode cX4_numberToken 48 = .ok (.goto (-26), 3) := by decide +kernel
theorem dX4_numberToken_51 : decode cX4_numberToken 51 = .ok (.sipush 1000, 3) := by decide +kernel
theorem dX4_numberToken_54 : decode cX4_numberToken 54 = .ok (.iload_n 1, 1) := by decide +kernel
theorem dX4_numberToken_55 : decode cX4_numberToken 55 = .ok (.iadd, 1) := by decide +kernel
theorem dX4_numberToken_56 : decode cX4_numberToken 56 = .ok (.ireturn, 1) := by decide +kernel
theorem dX4_wordToken_0 : decode cX4_wordToken 0 = .ok (.aload_n 0, 1) := by decide +kernel
theorem dX4_wordToken_1 : decode cX4_wordToken 1 = .ok (.ldc 99, 2) := by decide +kernel
theorem dX4_wordToken_3 : decode cX4_wordToken 3 = .ok (.invokevirtual 101, 3) := by decide +kernel
theorem dX4_wordToken_6 : decode cX4_wordToken 6 = .ok (.ifCond .eq 7, 3) := by decide +kernel
theorem dX4_wordToken_9 : decode cX4_wordToken 9 = .ok (.sipush 300, 3) := by decide +kernel
theorem dX4_wordToken_12 : decode cX4_wordToken 12 = .ok (.ireturn, 1) := by decide +kernel
theorem dX4_wordToken_13 : decode cX4_wordToken 13 = .ok (.aload_n 0, 1) := by decide +kernel
theorem dX4_wordToken_14 : decode cX4_wordToken 14 = .ok (.ldc 105, 2) := by decide +kernel
theorem dX4_wordToken_16 : decode cX4_wordToken 16 = .ok (.invokevirtual 101, 3) := by decide +kernel
theorem dX4_wordToken_19 : decode cX4_wordToken 19 = .ok (.ifCond .eq 7, 3) := by decide +kernel
theorem dX4_wordToken_22 : decode cX4_wordToken 22 = .ok (.sipush 301, 3) := by decide +kernel
theorem dX4_wordToken_25 : decode cX4_wordToken 25 = .ok (.ireturn, 1) := by decide +kernel
theorem dX4_wordToken_26 : decode cX4_wordToken 26 = .ok (.aload_n 0, 1) := by decide +kernel
theorem dX4_wordToken_27 : decode cX4_wordToken 27 = .ok (.ldc 107, 2) := by decide +kernel
theorem dX4_wordToken_29 : decode cX4_wordToken 29 = .ok (.invokevirtual 101, 3) := by decide +kernel
theorem dX4_wordToken_32 : decode cX4_wordToken 32 = .ok (.ifCond .eq 7, 3) := by decide +kernel
theorem dX4_wordToken_35 : decode cX4_wordToken 35 = .ok (.sipush 302, 3) := by decide +kernel
theorem dX4_wordToken_38 : decode cX4_wordToken 38 = .ok (.ireturn, 1) := by decide +kernel
theorem dX4_wordToken_39 : decode cX4_wordToken 39 = .ok (.aload_n 0, 1) := by decide +kernel
theorem dX4_wordToken_40 : decode cX4_wordToken 40 = .ok (.ldc 109, 2) := by decide +kernel
theorem dX4_wordToken_42 : decode cX4_wordToken 42 = .ok (.invokevirtual 101, 3) := by decide +kernel
theorem dX4_wordToken_45 : decode cX4_wordToken 45 = .ok (.ifCond .eq 7, 3) := by decide +kernel
theorem dX4_wordToken_48 : decode cX4_wordToken 48 = .ok (.sipush 303, 3) := by decide +kernel
theorem dX4_wordToken_51 : decode cX4_wordToken 51 = .ok (.ireturn, 1) := by decide +kernel
theorem dX4_wordToken_52 : decode cX4_wordToken 52 = .ok (.aload_n 0, 1) := by decide +kernel
theorem dX4_wordToken_53 : decode cX4_wordToken 53 = .ok (.ldc 111, 2) := by decide +kernel
theorem dX4_wordToken_55 : decode cX4_wordToken 55 = .ok (.invokevirtual 101, 3) := by decide +kernel
theorem dX4_wordToken_58 : decode cX4_wordToken 58 = .ok (.ifCond .eq 7, 3) := by decide +kernel
theorem dX4_wordToken_61 : decode cX4_wordToken 61 = .ok (.sipush 304, 3) := by decide +kernel
theorem dX4_wordToken_64 : decode cX4_wordToken 64 = .ok (.ireturn, 1) := by decide +kernel
theorem dX4_wordToken_65 : decode cX4_wordToken 65 = .ok (.aload_n 0, 1) := by decide +kernel
theorem dX4_wordToken_66 : decode cX4_wordToken 66 = .ok (.ldc 113, 2) := by decide +kernel
theorem dX4_wordToken_68 : decode cX4_wordToken 68 = .ok (.invokevirtual 101, 3) := by decide +kernel
theorem dX4_wordToken_71 : decode cX4_wordToken 71 = .ok (.ifCond .eq 7, 3) := by decide +kernel
theorem dX4_wordToken_74 : decode cX4_wordToken 74 = .ok (.sipush 305, 3) := by decide +kernel
theorem dX4_wordToken_77 : decode cX4_wordToken 77 = .ok (.ireturn, 1) := by decide +kernel
theorem dX4_wordToken_78 : decode cX4_wordToken 78 = .ok (.aload_n 0, 1) := by decide +kernel
theorem dX4_wordToken_79 : decode cX4_wordToken 79 = .ok (.ldc 115, 2) := by decide +kernel
theorem dX4_wordToken_81 : decode cX4_wordToken 81 = .ok (.invokevirtual 101, 3) := by decide +kernel
theorem dX4_wordToken_84 : decode cX4_wordToken 84 = .ok (.ifCond .eq 7, 3) := by decide +kernel
theorem dX4_wordToken_87 : decode cX4_wordToken 87 = .ok (.sipush 270, 3) := by decide +kernel
theorem dX4_wordToken_90 : decode cX4_wordToken 90 = .ok (.ireturn, 1) := by decide +kernel
theorem dX4_wordToken_91 : decode cX4_wordToken 91 = .ok (.aload_n 0, 1) := by decide +kernel
theorem dX4_wordToken_92 : decode cX4_wordToken 92 = .ok (.ldc 117, 2) := by decide +kernel
theorem dX4_wordToken_94 : decode cX4_wordToken 94 = .ok (.invokevirtual 101, 3) := by decide +kernel
theorem dX4_wordToken_97 : decode cX4_wordToken 97 = .ok (.ifCond .eq 7, 3) := by decide +kernel
theorem dX4_wordToken_100 : decode cX4_wordToken 100 = .ok (.sipush 271, 3) := by decide +kernel
theorem dX4_wordToken_103 : decode cX4_wordToken 103 = .ok (.ireturn, 1) := by decide +kernel
theorem dX4_wordToken_104 : decode cX4_wordToken 104 = .ok (.aload_n 0, 1) := by decide +kernel
theorem dX4_wordToken_105 : decode cX4_wordToken 105 = .ok (.ldc 119, 2) := by decide +kernel
theorem dX4_wordToken_107 : decode cX4_wordToken 107 = .ok (.invokevirtual 101, 3) := by decide +kernel
theorem dX4_wordToken_110 : decode cX4_wordToken 110 = .ok (.ifCond .eq 7, 3) := by decide +kernel
theorem dX4_wordToken_113 : decode cX4_wordToken 113 = .ok (.sipush 272, 3) := by decide +kernel
theorem dX4_wordToken_116 : decode cX4_wordToken 116 = .ok (.ireturn, 1) := by decide +kernel
theorem dX4_wordToken_117 : decode cX4_wordToken 117 = .ok (.aload_n 0, 1) := by decide +kernel
theorem dX4_wordToken_118 : decode cX4_wordToken 118 = .ok (.ldc 121, 2) := by decide +kernel
theorem dX4_wordToken_120 : decode cX4_wordToken 120 = .ok (.invokevirtual 101, 3) := by decide +kernel
theorem dX4_wordToken_123 : decode cX4_wordToken 123 = .ok (.ifCond .eq 7, 3) := by decide +kernel
theorem dX4_wordToken_126 : decode cX4_wordToken 126 = .ok (.sipush 256, 3) := by decide +kernel
theorem dX4_wordToken_129 : decode cX4_wordToken 129 = .ok (.ireturn, 1) := by decide +kernel
theorem dX4_wordToken_130 : decode cX4_wordToken 130 = .ok (.aload_n 0, 1) := by decide +kernel
theorem dX4_wordToken_131 : decode cX4_wordToken 131 = .ok (.ldc 123, 2) := by decide +kernel
theorem dX4_wordToken_133 : decode cX4_wordToken 133 = .ok (.invokevirtual 101, 3) := by decide +kernel
theorem dX4_wordToken_136 : decode cX4_wordToken 136 = .ok (.ifCond .eq 7, 3) := by decide +kernel
theorem dX4_wordToken_139 : decode cX4_wordToken 139 = .ok (.sipush 257, 3) := by decide +kernel
theorem dX4_wordToken_142 : decode cX4_wordToken 142 = .ok (.ireturn, 1) := by decide +kernel
theorem dX4_wordToken_143 : decode cX4_wordToken 143 = .ok (.aload_n 0, 1) := by decide +kernel
theorem dX4_wordToken_144 : decode cX4_wordToken 144 = .ok (.ldc 125, 2) := by decide +kernel
theorem dX4_wordToken_146 : decode cX4_wordToken 146 = .ok (.invokevirtual 101, 3) := by decide +kernel
theorem dX4_wordToken_149 : decode cX4_wordToken 149 = .ok (.ifCond .eq 9, 3) := by decide +kernel
theorem dX4_wordToken_152 : decode cX4_wordToken 152 = .ok (.sipush 258, 3) := by decide +kernel
theorem dX4_wordToken_155 : decode cX4_wordToken 155 = .ok (.goto 4, 3) := by decide +kernel
theorem dX4_wordToken_158 : decode cX4_wordToken 158 = .ok (.iconst 0, 1) := by decide +kernel
theorem dX4_wordToken_159 : decode cX4_wordToken 159 = .ok (.ireturn, 1) := by decide +kernel
theorem dX4_spells_0 : decode cX4_spells 0 = .ok (.aload_n 0, 1) := by decide +kernel
theorem dX4_spells_1 : decode cX4_spells 1 = .ok (.getfield 19, 3) := by decide +kernel
theorem dX4_spells_4 : decode cX4_spells 4 = .ok (.aload_n 0, 1) := by decide +kernel
theorem dX4_spells_5 : decode cX4_spells 5 = .ok (.getfield 25, 3) := by decide +kernel
theorem dX4_spells_8 : decode cX4_spells 8 = .ok (.isub, 1) := by decide +kernel
theorem dX4_spells_9 : decode cX4_spells 9 = .ok (.aload_n 1, 1) := by decide +kernel
theorem dX4_spells_10 : decode cX4_spells 10 = .ok (.invokevirtual 127, 3) := by decide +kernel
theorem dX4_spells_13 : decode cX4_spells 13 = .ok (.if_icmp .eq 5, 3) := by decide +kernel
theorem dX4_spells_16 : decode cX4_spells 16 = .ok (.iconst 0, 1) := by decide +kernel
theorem dX4_spells_17 : decode cX4_spells 17 = .ok (.ireturn, 1) := by decide +kernel
theorem dX4_spells_18 : decode cX4_spells 18 = .ok (.iconst 0, 1) := by decide +kernel
theorem dX4_spells_19 : decode cX4_spells 19 = .ok (.istore_n 2, 1) := by decide +kernel
theorem dX4_spells_20 : decode cX4_spells 20 = .ok (.iload_n 2, 1) := by decide +kernel
theorem dX4_spells_21 : decode cX4_spells 21 = .ok (.aload_n 1, 1) := by decide +kernel
theorem dX4_spells_22 : decode cX4_spells 22 = .ok (.invokevirtual 127, 3) := by decide +kernel
theorem dX4_spells_25 : decode cX4_spells 25 = .ok (.if_icmp .ge 30, 3) := by decide +kernel
theorem dX4_spells_28 : decode cX4_spells 28 = .ok (.aload_n 0, 1) := by decide +kernel
theorem dX4_spells_29 : decode cX4_spells 29 = .ok (.getfield 9, 3) := by decide +kernel
theorem dX4_spells_32 : decode cX4_spells 32 = .ok (.aload_n 0, 1) := by decide +kernel
theorem dX4_spells_33 : decode cX4_spells 33 = .ok (.getfield 25, 3) := by decide +kernel
theorem dX4_spells_36 : decode cX4_spells 36 = .ok (.iload_n 2, 1) := by decide +kernel
theorem dX4_spells_37 : decode cX4_spells 37 = .ok (.iadd, 1) := by decide +kernel
theorem dX4_spells_38 : decode cX4_spells 38 = .ok (.iaload, 1) := by decide +kernel
theorem dX4_spells_39 : decode cX4_spells 39 = .ok (.aload_n 1, 1) := by decide +kernel
theorem dX4_spells_40 : decode cX4_spells 40 = .ok (.iload_n 2, 1) := by decide +kernel
theorem dX4_spells_41 : decode cX4_spells 41 = .ok (.invokevirtual 132, 3) := by decide +kernel
theorem dX4_spells_44 : decode cX4_spells 44 = .ok (.if_icmp .eq 5, 3) := by decide +kernel
theorem dX4_spells_47 : decode cX4_spells 47 = .ok (.iconst 0, 1) := by decide +kernel
theorem dX4_spells_48 : decode cX4_spells 48 = .ok (.ireturn, 1) := by decide +kernel
theorem dX4_spells_49 : decode cX4_spells 49 = .ok (.iinc 2 1, 3) := by decide +kernel
theorem dX4_spells_52 : decode cX4_spells 52 = .ok (.goto (-32), 3) := by decide +kernel
theorem dX4_spells_55 : decode cX4_spells 55 = .ok (.iconst 1, 1) := by decide +kernel
theorem dX4_spells_56 : decode cX4_spells 56 = .ok (.ireturn, 1) := by decide +kernel
theorem dX5_init_0 : decode cX5_init 0 = .ok (.aload_n 0, 1) := by decide +kernel
theorem dX5_init_1 : decode cX5_init 1 = .ok (.invokespecial 3, 3) := by decide +kernel
theorem dX5_init_4 : decode cX5_init 4 = .ok (.aload_n 0, 1) := by decide +kernel
theorem dX5_init_5 : decode cX5_init 5 = .ok (.sipush 160, 3) := by decide +kernel
theorem dX5_init_8 : decode cX5_init 8 = .ok (.newarray .int, 2) := by decide +kernel
theorem dX5_init_10 : decode cX5_init 10 = .ok (.putfield 9, 3) := by decide +kernel
theorem dX5_init_13 : decode cX5_init 13 = .ok (.aload_n 0, 1) := by decide +kernel
theorem dX5_init_14 : decode cX5_init 14 = .ok (.iconst 4, 1) := by decide +kernel
theorem dX5_init_15 : decode cX5_init 15 = .ok (.newarray .int, 2) := by decide +kernel
theorem dX5_init_17 : decode cX5_init 17 = .ok (.putfield 15, 3) := by decide +kernel
theorem dX5_init_20 : decode cX5_init 20 = .ok (.aload_n 0, 1) := by decide +kernel
theorem dX5_init_21 : decode cX5_init 21 = .ok (.sipush 160, 3) := by decide +kernel
theorem dX5_init_24 : decode cX5_init 24 = .ok (.newarray .int, 2) := by decide +kernel
theorem dX5_init_26 : decode cX5_init 26 = .ok (.putfield 18, 3) := by decide +kernel
theorem dX5_init_29 : decode cX5_init 29 = .ok (.aload_n 0, 1) := by decide +kernel
theorem dX5_init_30 : decode cX5_init 30 = .ok (.iconst 0, 1) := by decide +kernel
theorem dX5_init_31 : decode cX5_init 31 = .ok (.putfield 21, 3) := by decide +kernel
theorem dX5_init_34 : decode cX5_init 34 = .ok (.return_, 1) := by decide +kernel
theorem dX5_clear_0 : decode cX5_clear 0 = .ok (.aload_n 0, 1) := by decide +kernel
theorem dX5_clear_1 : decode cX5_clear 1 = .ok (.iconst 0, 1) := by decide +kernel
theorem dX5_clear_2 : decode cX5_clear 2 = .ok (.putfield 21, 3) := by decide +kernel
theorem dX5_clear_5 : decode cX5_clear 5 = .ok (.return_, 1) := by decide +kernel
theorem dX5_begin_0 : decode cX5_begin 0 = .ok (.aload_n 0, 1) := by decide +kernel
theorem dX5_begin_1 : decode cX5_begin 1 = .ok (.getfield 15, 3) := by decide +kernel
theorem dX5_begin_4 : decode cX5_begin 4 = .ok (.iload_n 1, 1) := by decide +kernel
theorem dX5_begin_5 : decode cX5_begin 5 = .ok (.aload_n 0, 1) := by decide +kernel
theorem dX5_begin_6 : decode cX5_begin 6 = .ok (.getfield 21, 3) := by decide +kernel
theorem dX5_begin_9 : decode cX5_begin 9 = .ok (.iastore, 1) := by decide +kernel
theorem dX5_begin_10 : decode cX5_begin 10 = .ok (.return_, 1) := by decide +kernel
theorem dX5_close_0 : decode cX5_close 0 = .ok (.aload_n 0, 1) := by decide +kernel
theorem dX5_close_1 : decode cX5_close 1 = .ok (.getfield 15, 3) := by decide +kernel
theorem dX5_close_4 : decode cX5_close 4 = .ok (.iconst 3, 1) := by decide +kernel
theorem dX5_close_5 : decode cX5_close 5 = .ok (.aload_n 0, 1) := by decide +kernel
theorem dX5_close_6 : decode cX5_close 6 = .ok (.getfield 21, 3) := by decide +kernel
theorem dX5_close_9 : decode cX5_close 9 = .ok (.iastore, 1) := by decide +kernel
theorem dX5_close_10 : decode cX5_close 10 = .ok (.return_, 1) := by decide +kernel
theorem dX5_add_0 : decode cX5_add 0 = .ok (.aload_n 0, 1) := by decide +kernel
theorem dX5_add_1 : decode cX5_add 1 = .ok (.getfield 21, 3) := by decide +kernel
theorem dX5_add_4 : decode cX5_add 4 = .ok (.sipush 160, 3) := by decide +kernel
theorem dX5_add_7 : decode cX5_add 7 = .ok (.if_icmp .lt 4, 3) := by decide +kernel
theorem dX5_add_10 : decode cX5_add 10 = .ok (.return_, 1) := by decide +kernel
theorem dX5_add_11 : decode cX5_add 11 = .ok (.aload_n 0, 1) := by decide +kernel
theorem dX5_add_12 : decode cX5_add 12 = .ok (.getfield 9, 3) := by decide +kernel
theorem dX5_add_15 : decode cX5_add 15 = .ok (.aload_n 0, 1) := by decide +kernel
theorem dX5_add_16 : decode cX5_add 16 = .ok (.getfield 21, 3) := by decide +kernel
theorem dX5_add_19 : decode cX5_add 19 = .ok (.iload_n 1, 1) := by decide +kernel
theorem dX5_add_20 : decode cX5_add 20 = .ok (.iastore, 1) := by decide +kernel
theorem dX5_add_21 : decode cX5_add 21 = .ok (.aload_n 0, 1) := by decide +kernel
theorem dX5_add_22 : decode cX5_add 22 = .ok (.dup, 1) := by decide +kernel
theorem dX5_add_23 : decode cX5_add 23 = .ok (.getfield 21, 3) := by decide +kernel
theorem dX5_add_26 : decode cX5_add 26 = .ok (.iconst 1, 1) := by decide +kernel
theorem dX5_add_27 : decode cX5_add 27 = .ok (.iadd, 1) := by decide +kernel
theorem dX5_add_28 : decode cX5_add 28 = .ok (.putfield 21, 3) := by decide +kernel
theorem dX5_add_31 : decode cX5_add 31 = .ok (.return_, 1) := by decide +kernel
theorem dX5_value_0 : decode cX5_value 0 = .ok (.iconst 0, 1) := by decide +kernel
theorem dX5_value_1 : decode cX5_value 1 = .ok (.istore_n 3, 1) := by decide +kernel
theorem dX5_value_2 : decode cX5_value 2 = .ok (.aload_n 0, 1) := by decide +kernel
theorem dX5_value_3 : decode cX5_value 3 = .ok (.getfield 15, 3) := by decide +kernel
theorem dX5_value_6 : decode cX5_value 6 = .ok (.iload_n 1, 1) := by decide +kernel
theorem dX5_value_7 : decode cX5_value 7 = .ok (.iaload, 1) := by decide +kernel
theorem dX5_value_8 : decode cX5_value 8 = .ok (.istore 4, 2) := by decide +kernel
theorem dX5_value_10 : decode cX5_value 10 = .ok (.iload 4, 2) := by decide +kernel
theorem dX5_value_12 : decode cX5_value 12 = .ok (.aload_n 0, 1) := by decide +kernel
theorem dX5_value_13 : decode cX5_value 13 = .ok (.getfield 15, 3) := by decide +kernel
theorem dX5_value_16 : decode cX5_value 16 = .ok (.iload_n 1, 1) := by decide +kernel
theorem dX5_value_17 : decode cX5_value 17 = .ok (.iconst 1, 1) := by decide +kernel
theorem dX5_value_18 : decode cX5_value 18 = .ok (.iadd, 1) := by decide +kernel
theorem dX5_value_19 : decode cX5_value 19 = .ok (.iaload, 1) := by decide +kernel
theorem dX5_value_20 : decode cX5_value 20 = .ok (.if_icmp .ge 177, 3) := by decide +kernel
theorem dX5_value_23 : decode cX5_value 23 = .ok (.aload_n 0, 1) := by decide +kernel
theorem dX5_value_24 : decode cX5_value 24 = .ok (.getfield 9, 3) := by decide +kernel
theorem dX5_value_27 : decode cX5_value 27 = .ok (.iload 4, 2) := by decide +kernel
theorem dX5_value_29 : decode cX5_value 29 = .ok (.iaload, 1) := by decide +kernel
theorem dX5_value_30 : decode cX5_value 30 = .ok (.istore 5, 2) := by decide +kernel
theorem dX5_value_32 : decode cX5_value 32 = .ok (.iload 5, 2) := by decide +kernel
theorem dX5_value_34 : decode cX5_value 34 = .ok (.sipush 300, 3) := by decide +kernel
theorem dX5_value_37 : decode cX5_value 37 = .ok (.if_icmp .lt 49, 3) := by decide +kernel
theorem dX5_value_40 : decode cX5_value 40 = .ok (.iload_n 3, 1) := by decide +kernel
theorem dX5_value_41 : decode cX5_value 41 = .ok (.sipush 160, 3) := by decide +kernel
theorem dX5_value_44 : decode cX5_value 44 = .ok (.if_icmp .lt 5, 3) := by decide +kernel
theorem dX5_value_47 : decode cX5_value 47 = .ok (.iconst 0, 1) := by decide +kernel
theorem dX5_value_48 : decode cX5_value 48 = .ok (.ireturn, 1) := by decide +kernel
theorem dX5_value_49 : decode cX5_value 49 = .ok (.aload_n 0, 1) := by decide +kernel
theorem dX5_value_50 : decode cX5_value 50 = .ok (.getfield 18, 3) := by decide +kernel
theorem dX5_value_53 : decode cX5_value 53 = .ok (.iload_n 3, 1) := by decide +kernel
theorem dX5_value_54 : decode cX5_value 54 = .ok (.iload 5, 2) := by decide +kernel
theorem dX5_value_56 : decode cX5_value 56 = .ok (.sipush 1000, 3) := by decide +kernel
theorem dX5_value_59 : decode cX5_value 59 = .ok (.if_icmp .lt 12, 3) := by decide +kernel
theorem dX5_value_62 : decode cX5_value 62 = .ok (.iload 5, 2) := by decide +kernel
theorem dX5_value_64 : decode cX5_value 64 = .ok (.sipush 1000, 3) := by decide +kernel
theorem dX5_value_67 : decode cX5_value 67 = .ok (.isub, 1) := by decide +kernel
theorem dX5_value_68 : decode cX5_value 68 = .ok (.goto 11, 3) := by decide +kernel
theorem dX5_value_71 : decode cX5_value 71 = .ok (.aload_n 2, 1) := by decide +kernel
theorem dX5_value_72 : decode cX5_value 72 = .ok (.iload 5, 2) := by decide +kernel
theorem dX5_value_74 : decode cX5_value 74 = .ok (.sipush 300, 3) := by decide +kernel
theorem dX5_value_77 : decode cX5_value 77 = .ok (.isub, 1) := by decide +kernel
theorem dX5_value_78 : decode cX5_value 78 = .ok (.iaload, 1) := by decide +kernel
theorem dX5_value_79 : decode cX5_value 79 = .ok (.iastore, 1) := by decide +kernel
theorem dX5_value_80 : decode cX5_value 80 = .ok (.iinc 3 1, 3) := by decide +kernel
theorem dX5_value_83 : decode cX5_value 83 = .ok (.goto 108, 3) := by decide +kernel
theorem dX5_value_86 : decode cX5_value 86 = .ok (.iload 5, 2) := by decide +kernel
theorem dX5_value_88 : decode cX5_value 88 = .ok (.sipush 258, 3) := by decide +kernel
theorem dX5_value_91 : decode cX5_value 91 = .ok (.if_icmp .eq 11, 3) := by decide +kernel
theorem dX5_value_94 : decode cX5_value 94 = .ok (.iload 5, 2) := by decide +kernel
theorem dX5_value_96 : decode cX5_value 96 = .ok (.sipush 259, 3) := by decide +kernel
theorem dX5_value_99 : decode cX5_value 99 = .ok (.if_icmp .ne 55, 3) := by decide +kernel
theorem dX5_value_102 : decode cX5_value 102 = .ok (.iload_n 3, 1) := by decide +kernel
theorem dX5_value_103 : decode cX5_value 103 = .ok (.iconst 1, 1) := by decide +kernel
theorem dX5_value_104 : decode cX5_value 104 = .ok (.if_icmp .ge 5, 3) := by decide +kernel
theorem dX5_value_107 : decode cX5_value 107 = .ok (.iconst 0, 1) := by decide +kernel
theorem dX5_value_108 : decode cX5_value 108 = .ok (.ireturn, 1) := by decide +kernel
theorem dX5_value_109 : decode cX5_value 109 = .ok (.aload_n 0, 1) := by decide +kernel
theorem dX5_value_110 : decode cX5_value 110 = .ok (.getfield 18, 3) := by decide +kernel
theorem dX5_value_113 : decode cX5_value 113 = .ok (.iload_n 3, 1) := by decide +kernel
theorem dX5_value_114 : decode cX5_value 114 = .ok (.iconst 1, 1) := by decide +kernel
theorem dX5_value_115 : decode cX5_value 115 = .ok (.isub, 1) := by decide +kernel
theorem dX5_value_116 : decode cX5_value 116 = .ok (.iaload, 1) := by decide +kernel
theorem dX5_value_117 : decode cX5_value 117 = .ok (.istore 6, 2) := by decide +kernel
theorem dX5_value_119 : decode cX5_value 119 = .ok (.aload_n 0, 1) := by decide +kernel
theorem dX5_value_120 : decode cX5_value 120 = .ok (.getfield 18, 3) := by decide +kernel
theorem dX5_value_123 : decode cX5_value 123 = .ok (.iload_n 3, 1) := by decide +kernel
theorem dX5_value_124 : decode cX5_value 124 = .ok (.iconst 1, 1) := by decide +kernel
theorem dX5_value_125 : decode cX5_value 125 = .ok (.isub, 1) := by decide +kernel
theorem dX5_value_126 : decode cX5_value 126 = .ok (.iload 5, 2) := by decide +kernel
theorem dX5_value_128 : decode cX5_value 128 = .ok (.sipush 259, 3) := by decide +kernel
theorem dX5_value_131 : decode cX5_value 131 = .ok (.if_icmp .ne 9, 3) := by decide +kernel
theorem dX5_value_134 : decode cX5_value 134 = .ok (.iload 6, 2) := by decide +kernel
theorem dX5_value_136 : decode cX5_value 136 = .ok (.ineg, 1) := by decide +kernel
theorem dX5_value_137 : decode cX5_value 137 = .ok (.goto 13, 3) := by decide +kernel
theorem dX5_value_140 : decode cX5_value 140 = .ok (.iload 6, 2) := by decide +kernel
theorem dX5_value_142 : decode cX5_value 142 = .ok (.ifCond .ne 7, 3) := by decide +kernel
theorem dX5_value_145 : decode cX5_value 145 = .ok (.iconst 1, 1) := by decide +kernel
theorem dX5_value_146 : decode cX5_value 146 = .ok (.goto 4, 3) := by decide +kernel
theorem dX5_value_149 : decode cX5_value 149 = .ok (.iconst 0, 1) := by decide +kernel
theorem dX5_value_150 : decode cX5_value 150 = .ok (.iastore, 1) := by decide +kernel
theorem dX5_value_151 : decode cX5_value 151 = .ok (.goto 40, 3) := by decide +kernel
theorem dX5_value_154 : decode cX5_value 154 = .ok (.iload_n 3, 1) := by decide +kernel
theorem dX5_value_155 : decode cX5_value 155 = .ok (.iconst 2, 1) := by decide +kernel
theorem dX5_value_156 : decode cX5_value 156 = .ok (.if_icmp .ge 5, 3) := by decide +kernel
theorem dX5_value_159 : decode cX5_value 159 = .ok (.iconst 0, 1) := by decide +kernel
theorem dX5_value_160 : decode cX5_value 160 = .ok (.ireturn, 1) := by decide +kernel
theorem dX5_value_161 : decode cX5_value 161 = .ok (.iinc 3 (-1), 3) := by decide +kernel
theorem dX5_value_164 : decode cX5_value 164 = .ok (.aload_n 0, 1) := by decide +kernel
theorem dX5_value_165 : decode cX5_value 165 = .ok (.getfield 18, 3) := by decide +kernel
theorem dX5_value_168 : decode cX5_value 168 = .ok (.iload_n 3, 1) := by decide +kernel
theorem dX5_value_169 : decode cX5_value 169 = .ok (.iconst 1, 1) := by decide +kernel
theorem dX5_value_170 : decode cX5_value 170 = .ok (.isub, 1) := by decide +kernel
theorem dX5_value_171 : decode cX5_value 171 = .ok (.iload 5, 2) := by decide +kernel
theorem dX5_value_173 : decode cX5_value 173 = .ok (.aload_n 0, 1) := by decide +kernel
theorem dX5_value_174 : decode cX5_value 174 = .ok (.getfield 18, 3) := by decide +kernel
theorem dX5_value_177 : decode cX5_value 177 = .ok (.iload_n 3, 1) := by decide +kernel
theorem dX5_value_178 : decode cX5_value 178 = .ok (.iconst 1, 1) := by decide +kernel
theorem dX5_value_179 : decode cX5_value 179 = .ok (.isub, 1) := by decide +kernel
theorem dX5_value_180 : decode cX5_value 180 = .ok (.iaload, 1) := by decide +kernel
theorem dX5_value_181 : decode cX5_value 181 = .ok (.aload_n 0, 1) := by decide +kernel
theorem dX5_value_182 : decode cX5_value 182 = .ok (.getfield 18, 3) := by decide +kernel
theorem dX5_value_185 : decode cX5_value 185 = .ok (.iload_n 3, 1) := by decide +kernel
theorem dX5_value_186 : decode cX5_value 186 = .ok (.iaload, 1) := by decide +kernel
theorem dX5_value_187 : decode cX5_value 187 = .ok (.invokestatic 25, 3) := by decide +kernel
theorem dX5_value_190 : decode cX5_value 190 = .ok (.iastore, 1) := by decide +kernel
theorem dX5_value_191 : decode cX5_value 191 = .ok (.iinc 4 1, 3) := by decide +kernel
theorem dX5_value_194 : decode cX5_value 194 = .ok (.goto (-184), 3) := by decide +kernel
theorem dX5_value_197 : decode cX5_value 197 = .ok (.iload_n 3, 1) := by decide +kernel
theorem dX5_value_198 : decode cX5_value 198 = .ok (.iconst 1, 1) := by decide +kernel
theorem dX5_value_199 : decode cX5_value 199 = .ok (.if_icmp .ge 7, 3) := by decide +kernel
theorem dX5_value_202 : decode cX5_value 202 = .ok (.iconst 0, 1) := by decide +kernel
theorem dX5_value_203 : decode cX5_value 203 = .ok (.goto 11, 3) := by decide +kernel
theorem dX5_value_206 : decode cX5_value 206 = .ok (.aload_n 0, 1) := by decide +kernel
theorem dX5_value_207 : decode cX5_value 207 = .ok (.getfield 18, 3) := by decide +kernel
theorem dX5_value_210 : decode cX5_value 210 = .ok (.iload_n 3, 1) := by decide +kernel
theorem dX5_value_211 : decode cX5_value 211 = .ok (.iconst 1, 1) := by decide +kernel
theorem dX5_value_212 : decode cX5_value 212 = .ok (.isub, 1) := by decide +kernel
theorem dX5_value_213 : decode cX5_value 213 = .ok (.iaload, 1) := by decide +kernel
theorem dX5_value_214 : decode cX5_value 214 = .ok (.ireturn, 1) := by decide +kernel
theorem dX5_joined_0 : decode cX5_joined 0 = .ok (.iload_n 0, 1) := by decide +kernel
theorem dX5_joined_1 : decode cX5_joined 1 = .ok (.lookupswitch 107 #[(42, 67), (43, 59), (45, 63), (60, 71), (61, 82), (257, 93)], 59) := by decide +kernel
theorem dX5_joined_60 : decode cX5_joined 60 = .ok (.iload_n 1, 1) := by decide +kernel
theorem dX5_joined_61 : decode cX5_joined 61 = .ok (.iload_n 2, 1) := by decide +kernel
theorem dX5_joined_62 : decode cX5_joined 62 = .ok (.iadd, 1) := by decide +kernel
theorem dX5_joined_63 : decode cX5_joined 63 = .ok (.ireturn, 1) := by decide +kernel
theorem dX5_joined_64 : decode cX5_joined 64 = .ok (.iload_n 1, 1) := by decide +kernel
theorem dX5_joined_65 : decode cX5_joined 65 = .ok (.iload_n 2, 1) := by decide +kernel
theorem dX5_joined_66 : decode cX5_joined 66 = .ok (.isub, 1) := by decide +kernel
theorem dX5_joined_67 : decode cX5_joined 67 = .ok (.ireturn, 1) := by decide +kernel
theorem dX5_joined_68 : decode cX5_joined 68 = .ok (.iload_n 1, 1) := by decide +kernel
theorem dX5_joined_69 : decode cX5_joined 69 = .ok (.iload_n 2, 1) := by decide +kernel
theorem dX5_joined_70 : decode cX5_joined 70 = .ok (.imul, 1) := by decide +kernel
theorem dX5_joined_71 : decode cX5_joined 71 = .ok (.ireturn, 1) := by decide +kernel
theorem dX5_joined_72 : decode cX5_joined 72 = .ok (.iload_n 1, 1) := by decide +kernel
theorem dX5_joined_73 : decode cX5_joined 73 = .ok (.iload_n 2, 1) := by decide +kernel
theorem dX5_joined_74 : decode cX5_joined 74 = .ok (.if_icmp .ge 7, 3) := by decide +kernel
theorem dX5_joined_77 : decode cX5_joined 77 = .ok (.iconst 1, 1) := by decide +kernel
theorem dX5_joined_78 : decode cX5_joined 78 = .ok (.goto 4, 3) := by decide +kernel
theorem dX5_joined_81 : decode cX5_joined 81 = .ok (.iconst 0, 1) := by decide +kernel
theorem dX5_joined_82 : decode cX5_joined 82 = .ok (.ireturn, 1) := by decide +kernel
theorem dX5_joined_83 : decode cX5_joined 83 = .ok (.iload_n 1, 1) := by decide +kernel
theorem dX5_joined_84 : decode cX5_joined 84 = .ok (.iload_n 2, 1) := by decide +kernel
theorem dX5_joined_85 : decode cX5_joined 85 = .ok (.if_icmp .ne 7, 3) := by decide +kernel
theorem dX5_joined_88 : decode cX5_joined 88 = .ok (.iconst 1, 1) := by decide +kernel
theorem dX5_joined_89 : decode cX5_joined 89 = .ok (.goto 4, 3) := by decide +kernel
theorem dX5_joined_92 : decode cX5_joined 92 = .ok (.iconst 0, 1) := by decide +kernel
theorem dX5_joined_93 : decode cX5_joined 93 = .ok (.ireturn, 1) := by decide +kernel
theorem dX5_joined_94 : decode cX5_joined 94 = .ok (.iload_n 1, 1) := by decide +kernel
theorem dX5_joined_95 : decode cX5_joined 95 = .ok (.ifCond .eq 11, 3) := by decide +kernel
theorem dX5_joined_98 : decode cX5_joined 98 = .ok (.iload_n 2, 1) := by decide +kernel
theorem dX5_joined_99 : decode cX5_joined 99 = .ok (.ifCond .eq 7, 3) := by decide +kernel
theorem dX5_joined_102 : decode cX5_joined 102 = .ok (.iconst 1, 1) := by decide +kernel
theorem dX5_joined_103 : decode cX5_joined 103 = .ok (.goto 4, 3) := by decide +kernel
theorem dX5_joined_106 : decode cX5_joined 106 = .ok (.iconst 0, 1) := by decide +kernel
theorem dX5_joined_107 : decode cX5_joined 107 = .ok (.ireturn, 1) := by decide +kernel
theorem dX5_joined_108 : decode cX5_joined 108 = .ok (.iload_n 1, 1) := by decide +kernel
theorem dX5_joined_109 : decode cX5_joined 109 = .ok (.ifCond .ne 7, 3) := by decide +kernel
theorem dX5_joined_112 : decode cX5_joined 112 = .ok (.iload_n 2, 1) := by decide +kernel
theorem dX5_joined_113 : decode cX5_joined 113 = .ok (.ifCond .eq 7, 3) := by decide +kernel
theorem dX5_joined_116 : decode cX5_joined 116 = .ok (.iconst 1, 1) := by decide +kernel
theorem dX5_joined_117 : decode cX5_joined 117 = .ok (.goto 4, 3) := by decide +kernel
theorem dX5_joined_120 : decode cX5_joined 120 = .ok (.iconst 0, 1) := by decide +kernel
theorem dX5_joined_121 : decode cX5_joined 121 = .ok (.ireturn, 1) := by decide +kernel
theorem dX6_init_0 : decode cX6_init 0 = .ok (.aload_n 0, 1) := by decide +kernel
theorem dX6_init_1 : decode cX6_init 1 = .ok (.invokespecial 3, 3) := by decide +kernel
theorem dX6_init_4 : decode cX6_init 4 = .ok (.aload_n 0, 1) := by decide +kernel
theorem dX6_init_5 : decode cX6_init 5 = .ok (.iload_n 1, 1) := by decide +kernel
theorem dX6_init_6 : decode cX6_init 6 = .ok (.putfield 9, 3) := by decide +kernel
theorem dX6_init_9 : decode cX6_init 9 = .ok (.aload_n 0, 1) := by decide +kernel
theorem dX6_init_10 : decode cX6_init 10 = .ok (.iload_n 2, 1) := by decide +kernel
theorem dX6_init_11 : decode cX6_init 11 = .ok (.putfield 15, 3) := by decide +kernel
theorem dX6_init_14 : decode cX6_init 14 = .ok (.aload_n 0, 1) := by decide +kernel
theorem dX6_init_15 : decode cX6_init 15 = .ok (.iload_n 3, 1) := by decide +kernel
theorem dX6_init_16 : decode cX6_init 16 = .ok (.putfield 18, 3) := by decide +kernel
theorem dX6_init_19 : decode cX6_init 19 = .ok (.return_, 1) := by decide +kernel
theorem dX6_callsIn_0 : decode cX6_callsIn 0 = .ok (.iload_n 1, 1) := by decide +kernel
theorem dX6_callsIn_1 : decode cX6_callsIn 1 = .ok (.iload_n 2, 1) := by decide +kernel
theorem dX6_callsIn_2 : decode cX6_callsIn 2 = .ok (.if_icmp .ge 5, 3) := by decide +kernel
theorem dX6_callsIn_5 : decode cX6_callsIn 5 = .ok (.iconst 0, 1) := by decide +kernel
theorem dX6_callsIn_6 : decode cX6_callsIn 6 = .ok (.ireturn, 1) := by decide +kernel
theorem dX6_callsIn_7 : decode cX6_callsIn 7 = .ok (.iload_n 1, 1) := by decide +kernel
theorem dX6_callsIn_8 : decode cX6_callsIn 8 = .ok (.iload_n 2, 1) := by decide +kernel
theorem dX6_callsIn_9 : decode cX6_callsIn 9 = .ok (.isub, 1) := by decide +kernel
theorem dX6_callsIn_10 : decode cX6_callsIn 10 = .ok (.bipush 10, 2) := by decide +kernel
theorem dX6_callsIn_12 : decode cX6_callsIn 12 = .ok (.irem, 1) := by decide +kernel
theorem dX6_callsIn_13 : decode cX6_callsIn 13 = .ok (.ifCond .ne 7, 3) := by decide +kernel
theorem dX6_callsIn_16 : decode cX6_callsIn 16 = .ok (.iconst 5, 1) := by decide +kernel
theorem dX6_callsIn_17 : decode cX6_callsIn 17 = .ok (.goto 4, 3) := by decide +kernel
theorem dX6_callsIn_20 : decode cX6_callsIn 20 = .ok (.iconst 0, 1) := by decide +kernel
theorem dX6_callsIn_21 : decode cX6_callsIn 21 = .ok (.istore_n 3, 1) := by decide +kernel
theorem dX6_callsIn_22 : decode cX6_callsIn 22 = .ok (.aload_n 0, 1) := by decide +kernel
theorem dX6_callsIn_23 : decode cX6_callsIn 23 = .ok (.getfield 9, 3) := by decide +kernel
theorem dX6_callsIn_26 : decode cX6_callsIn 26 = .ok (.tableswitch 55 1 5 #[34, 55, 39, 55, 46], 34) := by decide +kernel
theorem dX6_callsIn_60 : decode cX6_callsIn 60 = .ok (.aload_n 0, 1) := by decide +kernel
theorem dX6_callsIn_61 : decode cX6_callsIn 61 = .ok (.getfield 18, 3) := by decide +kernel
theorem dX6_callsIn_64 : decode cX6_callsIn 64 = .ok (.ireturn, 1) := by decide +kernel
theorem dX6_callsIn_65 : decode cX6_callsIn 65 = .ok (.aload_n 0, 1) := by decide +kernel
theorem dX6_callsIn_66 : decode cX6_callsIn 66 = .ok (.getfield 18, 3) := by decide +kernel
theorem dX6_callsIn_69 : decode cX6_callsIn 69 = .ok (.iload_n 3, 1) := by decide +kernel
theorem dX6_callsIn_70 : decode cX6_callsIn 70 = .ok (.iadd, 1) := by decide +kernel
theorem dX6_callsIn_71 : decode cX6_callsIn 71 = .ok (.ireturn, 1) := by decide +kernel
theorem dX6_callsIn_72 : decode cX6_callsIn 72 = .ok (.iconst 2, 1) := by decide +kernel
theorem dX6_callsIn_73 : decode cX6_callsIn 73 = .ok (.aload_n 0, 1) := by decide +kernel
theorem dX6_callsIn_74 : decode cX6_callsIn 74 = .ok (.getfield 18, 3) := by decide +kernel
theorem dX6_callsIn_77 : decode cX6_callsIn 77 = .ok (.iload_n 3, 1) := by decide +kernel
theorem dX6_callsIn_78 : decode cX6_callsIn 78 = .ok (.iadd, 1) := by decide +kernel
theorem dX6_callsIn_79 : decode cX6_callsIn 79 = .ok (.imul, 1) := by decide +kernel
theorem dX6_callsIn_80 : decode cX6_callsIn 80 = .ok (.ireturn, 1) := by decide +kernel
theorem dX6_callsIn_81 : decode cX6_callsIn 81 = .ok (.iconst 0, 1) := by decide +kernel
theorem dX6_callsIn_82 : decode cX6_callsIn 82 = .ok (.ireturn, 1) := by decide +kernel
theorem dX6_asksIn_0 : decode cX6_asksIn 0 = .ok (.iload_n 1, 1) := by decide +kernel
theorem dX6_asksIn_1 : decode cX6_asksIn 1 = .ok (.iload_n 2, 1) := by decide +kernel
theorem dX6_asksIn_2 : decode cX6_asksIn 2 = .ok (.if_icmp .ge 7, 3) := by decide +kernel
theorem dX6_asksIn_5 : decode cX6_asksIn 5 = .ok (.iconst 1, 1) := by decide +kernel
theorem dX6_asksIn_6 : decode cX6_asksIn 6 = .ok (.goto 9, 3) := by decide +kernel
theorem dX6_asksIn_9 : decode cX6_asksIn 9 = .ok (.iconst 1, 1) := by decide +kernel
theorem dX6_asksIn_10 : decode cX6_asksIn 10 = .ok (.aload_n 0, 1) := by decide +kernel
theorem dX6_asksIn_11 : decode cX6_asksIn 11 = .ok (.getfield 18, 3) := by decide +kernel
theorem dX6_asksIn_14 : decode cX6_asksIn 14 = .ok (.iadd, 1) := by decide +kernel
theorem dX6_asksIn_15 : decode cX6_asksIn 15 = .ok (.istore_n 3, 1) := by decide +kernel
theorem dX6_asksIn_16 : decode cX6_asksIn 16 = .ok (.aload_n 0, 1) := by decide +kernel
theorem dX6_asksIn_17 : decode cX6_asksIn 17 = .ok (.getfield 9, 3) := by decide +kernel
theorem dX6_asksIn_20 : decode cX6_asksIn 20 = .ok (.tableswitch 45 2 5 #[32, 34, 36, 40], 32) := by decide +kernel
theorem dX6_asksIn_52 : decode cX6_asksIn 52 = .ok (.iload_n 3, 1) := by decide +kernel
theorem dX6_asksIn_53 : decode cX6_asksIn 53 = .ok (.ireturn, 1) := by decide +kernel
theorem dX6_asksIn_54 : decode cX6_asksIn 54 = .ok (.iconst 0, 1) := by decide +kernel
theorem dX6_asksIn_55 : decode cX6_asksIn 55 = .ok (.ireturn, 1) := by decide +kernel
theorem dX6_asksIn_56 : decode cX6_asksIn 56 = .ok (.iconst 2, 1) := by decide +kernel
theorem dX6_asksIn_57 : decode cX6_asksIn 57 = .ok (.iload_n 3, 1) := by decide +kernel
theorem dX6_asksIn_58 : decode cX6_asksIn 58 = .ok (.imul, 1) := by decide +kernel
theorem dX6_asksIn_59 : decode cX6_asksIn 59 = .ok (.ireturn, 1) := by decide +kernel
theorem dX6_asksIn_60 : decode cX6_asksIn 60 = .ok (.aload_n 0, 1) := by decide +kernel
theorem dX6_asksIn_61 : decode cX6_asksIn 61 = .ok (.getfield 18, 3) := by decide +kernel
theorem dX6_asksIn_64 : decode cX6_asksIn 64 = .ok (.ireturn, 1) := by decide +kernel
theorem dX6_asksIn_65 : decode cX6_asksIn 65 = .ok (.iconst 1, 1) := by decide +kernel
theorem dX6_asksIn_66 : decode cX6_asksIn 66 = .ok (.ireturn, 1) := by decide +kernel
theorem dX6_rankOf_0 : decode cX6_rankOf 0 = .ok (.aload_n 0, 1) := by decide +kernel
theorem dX6_rankOf_1 : decode cX6_rankOf 1 = .ok (.getfield 9, 3) := by decide +kernel
theorem dX6_rankOf_4 : decode cX6_rankOf 4 = .ok (.iconst 3, 1) := by decide +kernel
theorem dX6_rankOf_5 : decode cX6_rankOf 5 = .ok (.if_icmp .eq 11, 3) := by decide +kernel
theorem dX6_rankOf_8 : decode cX6_rankOf 8 = .ok (.aload_n 0, 1) := by decide +kernel
theorem dX6_rankOf_9 : decode cX6_rankOf 9 = .ok (.getfield 9, 3) := by decide +kernel
theorem dX6_rankOf_12 : decode cX6_rankOf 12 = .ok (.iconst 5, 1) := by decide +kernel
theorem dX6_rankOf_13 : decode cX6_rankOf 13 = .ok (.if_icmp .ne 6, 3) := by decide +kernel
theorem dX6_rankOf_16 : decode cX6_rankOf 16 = .ok (.iload_n 2, 1) := by decide +kernel
theorem dX6_rankOf_17 : decode cX6_rankOf 17 = .ok (.ineg, 1) := by decide +kernel
theorem dX6_rankOf_18 : decode cX6_rankOf 18 = .ok (.ireturn, 1) := by decide +kernel
theorem dX6_rankOf_19 : decode cX6_rankOf 19 = .ok (.aload_n 0, 1) := by decide +kernel
theorem dX6_rankOf_20 : decode cX6_rankOf 20 = .ok (.getfield 9, 3) := by decide +kernel
theorem dX6_rankOf_23 : decode cX6_rankOf 23 = .ok (.iconst 4, 1) := by decide +kernel
theorem dX6_rankOf_24 : decode cX6_rankOf 24 = .ok (.if_icmp .ne 7, 3) := by decide +kernel
theorem dX6_rankOf_27 : decode cX6_rankOf 27 = .ok (.iload_n 1, 1) := by decide +kernel
theorem dX6_rankOf_28 : decode cX6_rankOf 28 = .ok (.goto 4, 3) := by decide +kernel
theorem dX6_rankOf_31 : decode cX6_rankOf 31 = .ok (.iconst 0, 1) := by decide +kernel
theorem dX6_rankOf_32 : decode cX6_rankOf 32 = .ok (.ireturn, 1) := by decide +kernel
theorem dX6_isUnder_0 : decode cX6_isUnder 0 = .ok (.aload_n 0, 1) := by decide +kernel
theorem dX6_isUnder_1 : decode cX6_isUnder 1 = .ok (.getfield 9, 3) := by decide +kernel
theorem dX6_isUnder_4 : decode cX6_isUnder 4 = .ok (.istore_n 2, 1) := by decide +kernel
theorem dX6_isUnder_5 : decode cX6_isUnder 5 = .ok (.iconst 0, 1) := by decide +kernel
theorem dX6_isUnder_6 : decode cX6_isUnder 6 = .ok (.istore_n 3, 1) := by decide +kernel
theorem dX6_isUnder_7 : decode cX6_isUnder 7 = .ok (.iload_n 3, 1) := by decide +kernel
theorem dX6_isUnder_8 : decode cX6_isUnder 8 = .ok (.getstatic 21, 3) := by decide +kernel
theorem dX6_isUnder_11 : decode cX6_isUnder 11 = .ok (.arraylength, 1) := by decide +kernel
theorem dX6_isUnder_12 : decode cX6_isUnder 12 = .ok (.if_icmp .ge 31, 3) := by decide +kernel
theorem dX6_isUnder_15 : decode cX6_isUnder 15 = .ok (.iload_n 2, 1) := by decide +kernel
theorem dX6_isUnder_16 : decode cX6_isUnder 16 = .ok (.iload_n 1, 1) := by decide +kernel
theorem dX6_isUnder_17 : decode cX6_isUnder 17 = .ok (.if_icmp .eq 26, 3) := by decide +kernel
theorem dX6_isUnder_20 : decode cX6_isUnder 20 = .ok (.iload_n 2, 1) := by decide +kernel
theorem dX6_isUnder_21 : decode cX6_isUnder 21 = .ok (.iconst 0, 1) := by decide +kernel
theorem dX6_isUnder_22 : decode cX6_isUnder 22 = .ok (.iconst 5, 1) := by decide +kernel
theorem dX6_isUnder_23 : decode cX6_isUnder 23 = .ok (.invokestatic 25, 3) := by decide +kernel
theorem dX6_isUnder_26 : decode cX6_isUnder 26 = .ok (.ifCond .ne 5, 3) := by decide +kernel
theorem dX6_isUnder_29 : decode cX6_isUnder 29 = .ok (.iconst 0, 1) := by decide +kernel
theorem dX6_isUnder_30 : decode cX6_isUnder 30 = .ok (.ireturn, 1) := by decide +kernel
theorem dX6_isUnder_31 : decode cX6_isUnder 31 = .ok (.getstatic 21, 3) := by decide +kernel
theorem dX6_isUnder_34 : decode cX6_isUnder 34 = .ok (.iload_n 2, 1) := by decide +kernel
theorem dX6_isUnder_35 : decode cX6_isUnder 35 = .ok (.iaload, 1) := by decide +kernel
theorem dX6_isUnder_36 : decode cX6_isUnder 36 = .ok (.istore_n 2, 1) := by decide +kernel
theorem dX6_isUnder_37 : decode cX6_isUnder 37 = .ok (.iinc 3 1, 3) := by decide +kernel
theorem dX6_isUnder_40 : decode cX6_isUnder 40 = .ok (.goto (-33), 3) := by decide +kernel
theorem dX6_isUnder_43 : decode cX6_isUnder 43 = .ok (.iload_n 2, 1) := by decide +kernel
theorem dX6_isUnder_44 : decode cX6_isUnder 44 = .ok (.iload_n 1, 1) := by decide +kernel
theorem dX6_isUnder_45 : decode cX6_isUnder 45 = .ok (.if_icmp .ne 7, 3) := by decide +kernel
theorem dX6_isUnder_48 : decode cX6_isUnder 48 = .ok (.iconst 1, 1) := by decide +kernel
theorem dX6_isUnder_49 : decode cX6_isUnder 49 = .ok (.goto 4, 3) := by decide +kernel
theorem dX6_isUnder_52 : decode cX6_isUnder 52 = .ok (.iconst 0, 1) := by decide +kernel
theorem dX6_isUnder_53 : decode cX6_isUnder 53 = .ok (.ireturn, 1) := by decide +kernel
theorem dX7_init_0 : decode cX7_init 0 = .ok (.aload_n 0, 1) := by decide +kernel
theorem dX7_init_1 : decode cX7_init 1 = .ok (.invokespecial 1, 3) := by decide +kernel
theorem dX7_init_4 : decode cX7_init 4 = .ok (.aload_n 0, 1) := by decide +kernel
theorem dX7_init_5 : decode cX7_init 5 = .ok (.new 7, 3) := by decide +kernel
theorem dX7_init_8 : decode cX7_init 8 = .ok (.dup, 1) := by decide +kernel
theorem dX7_init_9 : decode cX7_init 9 = .ok (.invokespecial 9, 3) := by decide +kernel
theorem dX7_init_12 : decode cX7_init 12 = .ok (.putfield 10, 3) := by decide +kernel
theorem dX7_init_15 : decode cX7_init 15 = .ok (.aload_n 0, 1) := by decide +kernel
theorem dX7_init_16 : decode cX7_init 16 = .ok (.new 7, 3) := by decide +kernel
theorem dX7_init_19 : decode cX7_init 19 = .ok (.dup, 1) := by decide +kernel
theorem dX7_init_20 : decode cX7_init 20 = .ok (.invokespecial 9, 3) := by decide +kernel
theorem dX7_init_23 : decode cX7_init 23 = .ok (.putfield 16, 3) := by decide +kernel
theorem dX7_init_26 : decode cX7_init 26 = .ok (.aload_n 0, 1) := by decide +kernel
theorem dX7_init_27 : decode cX7_init 27 = .ok (.iconst 0, 1) := by decide +kernel
theorem dX7_init_28 : decode cX7_init 28 = .ok (.putfield 19, 3) := by decide +kernel
theorem dX7_init_31 : decode cX7_init 31 = .ok (.aload_n 0, 1) := by decide +kernel
theorem dX7_init_32 : decode cX7_init 32 = .ok (.new 23, 3) := by decide +kernel
theorem dX7_init_35 : decode cX7_init 35 = .ok (.dup, 1) := by decide +kernel
theorem dX7_init_36 : decode cX7_init 36 = .ok (.invokespecial 25, 3) := by decide +kernel
theorem dX7_init_39 : decode cX7_init 39 = .ok (.putfield 26, 3) := by decide +kernel
theorem dX7_init_42 : decode cX7_init 42 = .ok (.aload_n 0, 1) := by decide +kernel
theorem dX7_init_43 : decode cX7_init 43 = .ok (.bipush 8, 2) := by decide +kernel
theorem dX7_init_45 : decode cX7_init 45 = .ok (.anewarray 30, 3) := by decide +kernel
theorem dX7_init_48 : decode cX7_init 48 = .ok (.putfield 32, 3) := by decide +kernel
theorem dX7_init_51 : decode cX7_init 51 = .ok (.aload_n 0, 1) := by decide +kernel
theorem dX7_init_52 : decode cX7_init 52 = .ok (.iconst 0, 1) := by decide +kernel
theorem dX7_init_53 : decode cX7_init 53 = .ok (.putfield 36, 3) := by decide +kernel
theorem dX7_init_56 : decode cX7_init 56 = .ok (.aload_n 0, 1) := by decide +kernel
theorem dX7_init_57 : decode cX7_init 57 = .ok (.new 30, 3) := by decide +kernel
theorem dX7_init_60 : decode cX7_init 60 = .ok (.dup, 1) := by decide +kernel
theorem dX7_init_61 : decode cX7_init 61 = .ok (.iconst 0, 1) := by decide +kernel
theorem dX7_init_62 : decode cX7_init 62 = .ok (.iconst 0, 1) := by decide +kernel
theorem dX7_init_63 : decode cX7_init 63 = .ok (.iconst 0, 1) := by decide +kernel
theorem dX7_init_64 : decode cX7_init 64 = .ok (.invokespecial 40, 3) := by decide +kernel
theorem dX7_init_67 : decode cX7_init 67 = .ok (.putfield 43, 3) := by decide +kernel
theorem dX7_init_70 : decode cX7_init 70 = .ok (.aload_n 0, 1) := by decide +kernel
theorem dX7_init_71 : decode cX7_init 71 = .ok (.new 47, 3) := by decide +kernel
theorem dX7_init_74 : decode cX7_init 74 = .ok (.dup, 1) := by decide +kernel
theorem dX7_init_75 : decode cX7_init 75 = .ok (.invokespecial 49, 3) := by decide +kernel
theorem dX7_init_78 : decode cX7_init 78 = .ok (.putfield 50, 3) := by decide +kernel
theorem dX7_init_81 : decode cX7_init 81 = .ok (.aload_n 0, 1) := by decide +kernel
theorem dX7_init_82 : decode cX7_init 82 = .ok (.bipush 6, 2) := by decide +kernel
theorem dX7_init_84 : decode cX7_init 84 = .ok (.anewarray 54, 3) := by decide +kernel
theorem dX7_init_87 : decode cX7_init 87 = .ok (.putfield 56, 3) := by decide +kernel
theorem dX7_init_90 : decode cX7_init 90 = .ok (.aload_n 0, 1) := by decide +kernel
theorem dX7_init_91 : decode cX7_init 91 = .ok (.iconst 1, 1) := by decide +kernel
theorem dX7_init_92 : decode cX7_init 92 = .ok (.putfield 60, 3) := by decide +kernel
theorem dX7_init_95 : decode cX7_init 95 = .ok (.aload_n 0, 1) := by decide +kernel
theorem dX7_init_96 : decode cX7_init 96 = .ok (.iconst 4, 1) := by decide +kernel
theorem dX7_init_97 : decode cX7_init 97 = .ok (.anewarray 63, 3) := by decide +kernel
theorem dX7_init_100 : decode cX7_init 100 = .ok (.putfield 65, 3) := by decide +kernel
theorem dX7_init_103 : decode cX7_init 103 = .ok (.aload_n 0, 1) := by decide +kernel
theorem dX7_init_104 : decode cX7_init 104 = .ok (.new 69, 3) := by decide +kernel
theorem dX7_init_107 : decode cX7_init 107 = .ok (.dup, 1) := by decide +kernel
theorem dX7_init_108 : decode cX7_init 108 = .ok (.invokespecial 71, 3) := by decide +kernel
theorem dX7_init_111 : decode cX7_init 111 = .ok (.putfield 72, 3) := by decide +kernel
theorem dX7_init_114 : decode cX7_init 114 = .ok (.aload_n 0, 1) := by decide +kernel
theorem dX7_init_115 : decode cX7_init 115 = .ok (.getfield 56, 3) := by decide +kernel
theorem dX7_init_118 : decode cX7_init 118 = .ok (.iconst 0, 1) := by decide +kernel
theorem dX7_init_119 : decode cX7_init 119 = .ok (.invokestatic 76, 3) := by decide +kernel
theorem dX7_init_122 : decode cX7_init 122 = .ok (.aastore, 1) := by decide +kernel
theorem dX7_init_123 : decode cX7_init 123 = .ok (.iconst 1, 1) := by decide +kernel
theorem dX7_init_124 : decode cX7_init 124 = .ok (.istore_n 1, 1) := by decide +kernel
theorem dX7_init_125 : decode cX7_init 125 = .ok (.iload_n 1, 1) := by decide +kernel
theorem dX7_init_126 : decode cX7_init 126 = .ok (.bipush 6, 2) := by decide +kernel
theorem dX7_init_128 : decode cX7_init 128 = .ok (.if_icmp .ge 22, 3) := by decide +kernel
theorem dX7_init_131 : decode cX7_init 131 = .ok (.aload_n 0, 1) := by decide +kernel
theorem dX7_init_132 : decode cX7_init 132 = .ok (.getfield 56, 3) := by decide +kernel
theorem dX7_init_135 : decode cX7_init 135 = .ok (.iload_n 1, 1) := by decide +kernel
theorem dX7_init_136 : decode cX7_init 136 = .ok (.new 54, 3) := by decide +kernel
theorem dX7_init_139 : decode cX7_init 139 = .ok (.dup, 1) := by decide +kernel
theorem dX7_init_140 : decode cX7_init 140 = .ok (.invokespecial 80, 3) := by decide +kernel
theorem dX7_init_143 : decode cX7_init 143 = .ok (.aastore, 1) := by decide +kernel
theorem dX7_init_144 : decode cX7_init 144 = .ok (.iinc 1 1, 3) := by decide +kernel
theorem dX7_init_147 : decode cX7_init 147 = .ok (.goto (-22), 3) := by decide +kernel
theorem dX7_init_150 : decode cX7_init 150 = .ok (.iconst 0, 1) := by decide +kernel
theorem dX7_init_151 : decode cX7_init 151 = .ok (.istore_n 1, 1) := by decide +kernel
theorem dX7_init_152 : decode cX7_init 152 = .ok (.iload_n 1, 1) := by decide +kernel
theorem dX7_init_153 : decode cX7_init 153 = .ok (.iconst 4, 1) := by decide +kernel
theorem dX7_init_154 : decode cX7_init 154 = .ok (.if_icmp .ge 22, 3) := by decide +kernel
theorem dX7_init_157 : decode cX7_init 157 = .ok (.aload_n 0, 1) := by decide +kernel
theorem dX7_init_158 : decode cX7_init 158 = .ok (.getfield 65, 3) := by decide +kernel
theorem dX7_init_161 : decode cX7_init 161 = .ok (.iload_n 1, 1) := by decide +kernel
theorem dX7_init_162 : decode cX7_init 162 = .ok (.new 63, 3) := by decide +kernel
theorem dX7_init_165 : decode cX7_init 165 = .ok (.dup, 1) := by decide +kernel
theorem dX7_init_166 : decode cX7_init 166 = .ok (.invokespecial 81, 3) := by decide +kernel
theorem dX7_init_169 : decode cX7_init 169 = .ok (.aastore, 1) := by decide +kernel
theorem dX7_init_170 : decode cX7_init 170 = .ok (.iinc 1 1, 3) := by decide +kernel
theorem dX7_init_173 : decode cX7_init 173 = .ok (.goto (-21), 3) := by decide +kernel
theorem dX7_init_176 : decode cX7_init 176 = .ok (.return_, 1) := by decide +kernel
theorem dX7_firstRule_0 : decode cX7_firstRule 0 = .ok (.new 47, 3) := by decide +kernel
theorem dX7_firstRule_3 : decode cX7_firstRule 3 = .ok (.dup, 1) := by decide +kernel
theorem dX7_firstRule_4 : decode cX7_firstRule 4 = .ok (.invokespecial 49, 3) := by decide +kernel
theorem dX7_firstRule_7 : decode cX7_firstRule 7 = .ok (.astore_n 0, 1) := by decide +kernel
theorem dX7_firstRule_8 : decode cX7_firstRule 8 = .ok (.new 54, 3) := by decide +kernel
theorem dX7_firstRule_11 : decode cX7_firstRule 11 = .ok (.dup, 1) := by decide +kernel
theorem dX7_firstRule_12 : decode cX7_firstRule 12 = .ok (.invokespecial 80, 3) := by decide +kernel
theorem dX7_firstRule_15 : decode cX7_firstRule 15 = .ok (.astore_n 1, 1) := by decide +kernel
theorem dX7_firstRule_16 : decode cX7_firstRule 16 = .ok (.iconst 0, 1) := by decide +kernel
theorem dX7_firstRule_17 : decode cX7_firstRule 17 = .ok (.istore_n 2, 1) := by decide +kernel
theorem dX7_firstRule_18 : decode cX7_firstRule 18 = .ok (.iload_n 2, 1) := by decide +kernel
theorem dX7_firstRule_19 : decode cX7_firstRule 19 = .ok (.ldc 82, 2) := by decide +kernel
theorem dX7_firstRule_21 : decode cX7_firstRule 21 = .ok (.invokevirtual 84, 3) := by decide +kernel
theorem dX7_firstRule_24 : decode cX7_firstRule 24 = .ok (.if_icmp .ge 19, 3) := by decide +kernel
theorem dX7_firstRule_27 : decode cX7_firstRule 27 = .ok (.aload_n 0, 1) := by decide +kernel
theorem dX7_firstRule_28 : decode cX7_firstRule 28 = .ok (.ldc 82, 2) := by decide +kernel
theorem dX7_firstRule_30 : decode cX7_firstRule 30 = .ok (.iload_n 2, 1) := by decide +kernel
theorem dX7_firstRule_31 : decode cX7_firstRule 31 = .ok (.invokevirtual 90, 3) := by decide +kernel
theorem dX7_firstRule_34 : decode cX7_firstRule 34 = .ok (.invokevirtual 94, 3) := by decide +kernel
theorem dX7_firstRule_37 : decode cX7_firstRule 37 = .ok (.iinc 2 1, 3) := by decide +kernel
theorem dX7_firstRule_40 : decode cX7_firstRule 40 = .ok (.goto (-22), 3) := by decide +kernel
theorem dX7_firstRule_43 : decode cX7_firstRule 43 = .ok (.aload_n 0, 1) := by decide +kernel
theorem dX7_firstRule_44 : decode cX7_firstRule 44 = .ok (.aload_n 1, 1) := by decide +kernel
theorem dX7_firstRule_45 : decode cX7_firstRule 45 = .ok (.invokevirtual 98, 3) := by decide +kernel
theorem dX7_firstRule_48 : decode cX7_firstRule 48 = .ok (.pop, 1) := by decide +kernel
theorem dX7_firstRule_49 : decode cX7_firstRule 49 = .ok (.aload_n 1, 1) := by decide +kernel
theorem dX7_firstRule_50 : decode cX7_firstRule 50 = .ok (.areturn, 1) := by decide +kernel
theorem dX7_people_0 : decode cX7_people 0 = .ok (.aload_n 0, 1) := by decide +kernel
theorem dX7_people_1 : decode cX7_people 1 = .ok (.getfield 10, 3) := by decide +kernel
theorem dX7_people_4 : decode cX7_people 4 = .ok (.iload_n 1, 1) := by decide +kernel
theorem dX7_people_5 : decode cX7_people 5 = .ok (.iload_n 2, 1) := by decide +kernel
theorem dX7_people_6 : decode cX7_people 6 = .ok (.invokevirtual 102, 3) := by decide +kernel
theorem dX7_people_9 : decode cX7_people 9 = .ok (.ireturn, 1) := by decide +kernel
theorem dX7_car_0 : decode cX7_car 0 = .ok (.iload_n 1, 1) := by decide +kernel
theorem dX7_car_1 : decode cX7_car 1 = .ok (.iconst 1, 1) := by decide +kernel
theorem dX7_car_2 : decode cX7_car 2 = .ok (.bipush 60, 2) := by decide +kernel
theorem dX7_car_4 : decode cX7_car 4 = .ok (.invokestatic 106, 3) := by decide +kernel
theorem dX7_car_7 : decode cX7_car 7 = .ok (.ifCond .eq 20, 3) := by decide +kernel
theorem dX7_car_10 : decode cX7_car 10 = .ok (.iload_n 2, 1) := by decide +kernel
theorem dX7_car_11 : decode cX7_car 11 = .ok (.iconst 1, 1) := by decide +kernel
theorem dX7_car_12 : decode cX7_car 12 = .ok (.bipush 30, 2) := by decide +kernel
theorem dX7_car_14 : decode cX7_car 14 = .ok (.invokestatic 106, 3) := by decide +kernel
theorem dX7_car_17 : decode cX7_car 17 = .ok (.ifCond .eq 10, 3) := by decide +kernel
theorem dX7_car_20 : decode cX7_car 20 = .ok (.iload_n 3, 1) := by decide +kernel
theorem dX7_car_21 : decode cX7_car 21 = .ok (.invokestatic 110, 3) := by decide +kernel
theorem dX7_car_24 : decode cX7_car 24 = .ok (.ifCond .ne 6, 3) := by decide +kernel
theorem dX7_car_27 : decode cX7_car 27 = .ok (.bipush (-2), 2) := by decide +kernel
theorem dX7_car_29 : decode cX7_car 29 = .ok (.ireturn, 1) := by decide +kernel
theorem dX7_car_30 : decode cX7_car 30 = .ok (.aload_n 0, 1) := by decide +kernel
theorem dX7_car_31 : decode cX7_car 31 = .ok (.getfield 26, 3) := by decide +kernel
theorem dX7_car_34 : decode cX7_car 34 = .ok (.iload_n 1, 1) := by decide +kernel
theorem dX7_car_35 : decode cX7_car 35 = .ok (.iload_n 2, 1) := by decide +kernel
theorem dX7_car_36 : decode cX7_car 36 = .ok (.iload_n 3, 1) := by decide +kernel
theorem dX7_car_37 : decode cX7_car 37 = .ok (.invokevirtual 114, 3) := by decide +kernel
theorem dX7_car_40 : decode cX7_car 40 = .ok (.ireturn, 1) := by decide +kernel
theorem dX7_way_0 : decode cX7_way 0 = .ok (.iload_n 1, 1) := by decide +kernel
theorem dX7_way_1 : decode cX7_way 1 = .ok (.iconst 0, 1) := by decide +kernel
theorem dX7_way_2 : decode cX7_way 2 = .ok (.iconst 5, 1) := by decide +kernel
theorem dX7_way_3 : decode cX7_way 3 = .ok (.invokestatic 106, 3) := by decide +kernel
theorem dX7_way_6 : decode cX7_way 6 = .ok (.ifCond .eq 20, 3) := by decide +kernel
theorem dX7_way_9 : decode cX7_way 9 = .ok (.iload_n 2, 1) := by decide +kernel
theorem dX7_way_10 : decode cX7_way 10 = .ok (.invokestatic 110, 3) := by decide +kernel
theorem dX7_way_13 : decode cX7_way 13 = .ok (.ifCond .eq 13, 3) := by decide +kernel
theorem dX7_way_16 : decode cX7_way 16 = .ok (.iload_n 3, 1) := by decide +kernel
theorem dX7_way_17 : decode cX7_way 17 = .ok (.iconst 0, 1) := by decide +kernel
theorem dX7_way_18 : decode cX7_way 18 = .ok (.bipush 9, 2) := by decide +kernel
theorem dX7_way_20 : decode cX7_way 20 = .ok (.invokestatic 106, 3) := by decide +kernel
theorem dX7_way_23 : decode cX7_way 23 = .ok (.ifCond .ne 6, 3) := by decide +kernel
theorem dX7_way_26 : decode cX7_way 26 = .ok (.bipush (-2), 2) := by decide +kernel
theorem dX7_way_28 : decode cX7_way 28 = .ok (.ireturn, 1) := by decide +kernel
theorem dX7_way_29 : decode cX7_way 29 = .ok (.aload_n 0, 1) := by decide +kernel
theorem dX7_way_30 : decode cX7_way 30 = .ok (.getfield 36, 3) := by decide +kernel
theorem dX7_way_33 : decode cX7_way 33 = .ok (.bipush 8, 2) := by decide +kernel
theorem dX7_way_35 : decode cX7_way 35 = .ok (.if_icmp .lt 6, 3) := by decide +kernel
theorem dX7_way_38 : decode cX7_way 38 = .ok (.bipush (-4), 2) := by decide +kernel
theorem dX7_way_40 : decode cX7_way 40 = .ok (.ireturn, 1) := by decide +kernel
theorem dX7_way_41 : decode cX7_way 41 = .ok (.aload_n 0, 1) := by decide +kernel
theorem dX7_way_42 : decode cX7_way 42 = .ok (.getfield 32, 3) := by decide +kernel
theorem dX7_way_45 : decode cX7_way 45 = .ok (.aload_n 0, 1) := by decide +kernel
theorem dX7_way_46 : decode cX7_way 46 = .ok (.getfield 36, 3) := by decide +kernel
theorem dX7_way_49 : decode cX7_way 49 = .ok (.new 30, 3) := by decide +kernel
theorem dX7_way_52 : decode cX7_way 52 = .ok (.dup, 1) := by decide +kernel
theorem dX7_way_53 : decode cX7_way 53 = .ok (.iload_n 1, 1) := by decide +kernel
theorem dX7_way_54 : decode cX7_way 54 = .ok (.iload_n 2, 1) := by decide +kernel
theorem dX7_way_55 : decode cX7_way 55 = .ok (.iload_n 3, 1) := by decide +kernel
theorem dX7_way_56 : decode cX7_way 56 = .ok (.invokespecial 40, 3) := by decide +kernel
theorem dX7_way_59 : decode cX7_way 59 = .ok (.aastore, 1) := by decide +kernel
theorem dX7_way_60 : decode cX7_way 60 = .ok (.aload_n 0, 1) := by decide +kernel
theorem dX7_way_61 : decode cX7_way 61 = .ok (.dup, 1) := by decide +kernel
theorem dX7_way_62 : decode cX7_way 62 = .ok (.getfield 36, 3) := by decide +kernel
theorem dX7_way_65 : decode cX7_way 65 = .ok (.dup_x1, 1) := by decide +kernel
theorem dX7_way_66 : decode cX7_way 66 = .ok (.iconst 1, 1) := by decide +kernel
theorem dX7_way_67 : decode cX7_way 67 = .ok (.iadd, 1) := by decide +kernel
theorem dX7_way_68 : decode cX7_way 68 = .ok (.putfield 36, 3) := by decide +kernel
theorem dX7_way_71 : decode cX7_way 71 = .ok (.ireturn, 1) := by decide +kernel
theorem dX7_set_0 : decode cX7_set 0 = .ok (.iload_n 1, 1) := by decide +kernel
theorem dX7_set_1 : decode cX7_set 1 = .ok (.iload_n 3, 1) := by decide +kernel
theorem dX7_set_2 : decode cX7_set 2 = .ok (.invokestatic 118, 3) := by decide +kernel
theorem dX7_set_5 : decode cX7_set 5 = .ok (.ifCond .ne 6, 3) := by decide +kernel
theorem dX7_set_8 : decode cX7_set 8 = .ok (.bipush (-2), 2) := by decide +kernel
theorem dX7_set_10 : decode cX7_set 10 = .ok (.ireturn, 1) := by decide +kernel
theorem dX7_set_11 : decode cX7_set 11 = .ok (.iload_n 1, 1) := by decide +kernel
theorem dX7_set_12 : decode cX7_set 12 = .ok (.iconst 5, 1) := by decide +kernel
theorem dX7_set_13 : decode cX7_set 13 = .ok (.if_icmp .ne 23, 3) := by decide +kernel
theorem dX7_set_16 : decode cX7_set 16 = .ok (.aload_n 0, 1) := by decide +kernel
theorem dX7_set_17 : decode cX7_set 17 = .ok (.getfield 10, 3) := by decide +kernel
theorem dX7_set_20 : decode cX7_set 20 = .ok (.getfield 122, 3) := by decide +kernel
theorem dX7_set_23 : decode cX7_set 23 = .ok (.istore 4, 2) := by decide +kernel
theorem dX7_set_25 : decode cX7_set 25 = .ok (.aload_n 0, 1) := by decide +kernel
theorem dX7_set_26 : decode cX7_set 26 = .ok (.getfield 10, 3) := by decide +kernel
theorem dX7_set_29 : decode cX7_set 29 = .ok (.iload_n 3, 1) := by decide +kernel
theorem dX7_set_30 : decode cX7_set 30 = .ok (.putfield 122, 3) := by decide +kernel
theorem dX7_set_33 : decode cX7_set 33 = .ok (.iload 4, 2) := by decide +kernel
theorem dX7_set_35 : decode cX7_set 35 = .ok (.ireturn, 1) := by decide +kernel
theorem dX7_set_36 : decode cX7_set 36 = .ok (.aload_n 0, 1) := by decide +kernel
theorem dX7_set_37 : decode cX7_set 37 = .ok (.getfield 10, 3) := by decide +kernel
theorem dX7_set_40 : decode cX7_set 40 = .ok (.iload_n 1, 1) := by decide +kernel
theorem dX7_set_41 : decode cX7_set 41 = .ok (.invokevirtual 125, 3) := by decide +kernel
theorem dX7_set_44 : decode cX7_set 44 = .ok (.astore 4, 2) := by decide +kernel
theorem dX7_set_46 : decode cX7_set 46 = .ok (.aload 4, 2) := by decide +kernel
theorem dX7_set_48 : decode cX7_set 48 = .ok (.ifnull 21, 3) := by decide +kernel
theorem dX7_set_51 : decode cX7_set 51 = .ok (.iload_n 2, 1) := by decide +kernel
theorem dX7_set_52 : decode cX7_set 52 = .ok (.iconst 0, 1) := by decide +kernel
theorem dX7_set_53 : decode cX7_set 53 = .ok (.aload_n 0, 1) := by decide +kernel
theorem dX7_set_54 : decode cX7_set 54 = .ok (.getfield 10, 3) := by decide +kernel
theorem dX7_set_57 : decode cX7_set 57 = .ok (.iload_n 1, 1) := by decide +kernel
theorem dX7_set_58 : decode cX7_set 58 = .ok (.invokevirtual 129, 3) := by decide +kernel
theorem dX7_set_61 : decode cX7_set 61 = .ok (.iconst 1, 1) := by decide +kernel
theorem dX7_set_62 : decode cX7_set 62 = .ok (.isub, 1) := by decide +kernel
theorem dX7_set_63 : decode cX7_set 63 = .ok (.invokestatic 106, 3) := by decide +kernel
theorem dX7_set_66 : decode cX7_set 66 = .ok (.ifCond .ne 6, 3) := by decide +kernel
theorem dX7_set_69 : decode cX7_set 69 = .ok (.bipush (-2), 2) := by decide +kernel
theorem dX7_set_71 : decode cX7_set 71 = .ok (.ireturn, 1) := by decide +kernel
theorem dX7_set_72 : decode cX7_set 72 = .ok (.aload 4, 2) := by decide +kernel
theorem dX7_set_74 : decode cX7_set 74 = .ok (.iload_n 2, 1) := by decide +kernel
theorem dX7_set_75 : decode cX7_set 75 = .ok (.iaload, 1) := by decide +kernel
theorem dX7_set_76 : decode cX7_set 76 = .ok (.istore 5, 2) := by decide +kernel
theorem dX7_set_78 : decode cX7_set 78 = .ok (.aload 4, 2) := by decide +kernel
theorem dX7_set_80 : decode cX7_set 80 = .ok (.iload_n 2, 1) := by decide +kernel
theorem dX7_set_81 : decode cX7_set 81 = .ok (.iload_n 3, 1) := by decide +kernel
theorem dX7_set_82 : decode cX7_set 82 = .ok (.iastore, 1) := by decide +kernel
theorem dX7_set_83 : decode cX7_set 83 = .ok (.iload 5, 2) := by decide +kernel
theorem dX7_set_85 : decode cX7_set 85 = .ok (.ireturn, 1) := by decide +kernel
theorem dX7_shut_0 : decode cX7_shut 0 = .ok (.iload_n 1, 1) := by decide +kernel
theorem dX7_shut_1 : decode cX7_shut 1 = .ok (.iconst (-1), 1) := by decide +kernel
theorem dX7_shut_2 : decode cX7_shut 2 = .ok (.if_icmp .eq 25, 3) := by decide +kernel
theorem dX7_shut_5 : decode cX7_shut 5 = .ok (.iload_n 1, 1) := by decide +kernel
theorem dX7_shut_6 : decode cX7_shut 6 = .ok (.invokestatic 110, 3) := by decide +kernel
theorem dX7_shut_9 : decode cX7_shut 9 = .ok (.ifCond .eq 15, 3) := by decide +kernel
theorem dX7_shut_12 : decode cX7_shut 12 = .ok (.iload_n 2, 1) := by decide +kernel
theorem dX7_shut_13 : decode cX7_shut 13 = .ok (.invokestatic 110, 3) := by decide +kernel
theorem dX7_shut_16 : decode cX7_shut 16 = .ok (.ifCond .eq 8, 3) := by decide +kernel
theorem dX7_shut_19 : decode cX7_shut 19 = .ok (.iload_n 2, 1) := by decide +kernel
theorem dX7_shut_20 : decode cX7_shut 20 = .ok (.iload_n 1, 1) := by decide +kernel
theorem dX7_shut_21 : decode cX7_shut 21 = .ok (.if_icmp .ge 6, 3) := by decide +kernel
theorem dX7_shut_24 : decode cX7_shut 24 = .ok (.bipush (-2), 2) := by decide +kernel
theorem dX7_shut_26 : decode cX7_shut 26 = .ok (.ireturn, 1) := by decide +kernel
theorem dX7_shut_27 : decode cX7_shut 27 = .ok (.aload_n 0, 1) := by decide +kernel
theorem dX7_shut_28 : decode cX7_shut 28 = .ok (.getfield 10, 3) := by decide +kernel
theorem dX7_shut_31 : decode cX7_shut 31 = .ok (.iload_n 1, 1) := by decide +kernel
theorem dX7_shut_32 : decode cX7_shut 32 = .ok (.putfield 133, 3) := by decide +kernel
theorem dX7_shut_35 : decode cX7_shut 35 = .ok (.aload_n 0, 1) := by decide +kernel
theorem dX7_shut_36 : decode cX7_shut 36 = .ok (.getfield 10, 3) := by decide +kernel
theorem dX7_shut_39 : decode cX7_shut 39 = .ok (.iload_n 2, 1) := by decide +kernel
theorem dX7_shut_40 : decode cX7_shut 40 = .ok (.putfield 136, 3) := by decide +kernel
theorem dX7_shut_43 : decode cX7_shut 43 = .ok (.iconst 1, 1) := by decide +kernel
theorem dX7_shut_44 : decode cX7_shut 44 = .ok (.ireturn, 1) := by decide +kernel
theorem dX7_told_0 : decode cX7_told 0 = .ok (.aload_n 0, 1) := by decide +kernel
theorem dX7_told_1 : decode cX7_told 1 = .ok (.iload_n 1, 1) := by decide +kernel
theorem dX7_told_2 : decode cX7_told 2 = .ok (.invokevirtual 139, 3) := by decide +kernel
theorem dX7_told_5 : decode cX7_told 5 = .ok (.astore 4, 2) := by decide +kernel
theorem dX7_told_7 : decode cX7_told 7 = .ok (.aload 4, 2) := by decide +kernel
theorem dX7_told_9 : decode cX7_told 9 = .ok (.ifnull 10, 3) := by decide +kernel
theorem dX7_told_12 : decode cX7_told 12 = .ok (.iload_n 2, 1) := by decide +kernel
theorem dX7_told_13 : decode cX7_told 13 = .ok (.invokestatic 110, 3) := by decide +kernel
theorem dX7_told_16 : decode cX7_told 16 = .ok (.ifCond .ne 6, 3) := by decide +kernel
theorem dX7_told_19 : decode cX7_told 19 = .ok (.bipush (-2), 2) := by decide +kernel
theorem dX7_told_21 : decode cX7_told 21 = .ok (.ireturn, 1) := by decide +kernel
theorem dX7_told_22 : decode cX7_told 22 = .ok (.iload_n 3, 1) := by decide +kernel
theorem dX7_told_23 : decode cX7_told 23 = .ok (.tableswitch 75 0 4 #[33, 39, 45, 51, 63], 33) := by decide +kernel
theorem dX7_told_56 : decode cX7_told 56 = .ok (.aload 4, 2) := by decide +kernel
theorem dX7_told_58 : decode cX7_told 58 = .ok (.getfield 143, 3) := by decide +kernel
theorem dX7_told_61 : decode cX7_told 61 = .ok (.ireturn, 1) := by decide +kernel
theorem dX7_told_62 : decode cX7_told 62 = .ok (.aload 4, 2) := by decide +kernel
theorem dX7_told_64 : decode cX7_told 64 = .ok (.getfield 146, 3) := by decide +kernel
theorem dX7_told_67 : decode cX7_told 67 = .ok (.ireturn, 1) := by decide +kernel
theorem dX7_told_68 : decode cX7_told 68 = .ok (.aload 4, 2) := by decide +kernel
theorem dX7_told_70 : decode cX7_told 70 = .ok (.getfield 149, 3) := by decide +kernel
theorem dX7_told_73 : decode cX7_told 73 = .ok (.ireturn, 1) := by decide +kernel
theorem dX7_told_74 : decode cX7_told 74 = .ok (.aload 4, 2) := by decide +kernel
theorem dX7_told_76 : decode cX7_told 76 = .ok (.iload_n 2, 1) := by decide +kernel
theorem dX7_told_77 : decode cX7_told 77 = .ok (.aload 4, 2) := by decide +kernel
theorem dX7_told_79 : decode cX7_told 79 = .ok (.getfield 146, 3) := by decide +kernel
theorem dX7_told_82 : decode cX7_told 82 = .ok (.invokevirtual 152, 3) := by decide +kernel
theorem dX7_told_85 : decode cX7_told 85 = .ok (.ireturn, 1) := by decide +kernel
theorem dX7_told_86 : decode cX7_told 86 = .ok (.aload 4, 2) := by decide +kernel
theorem dX7_told_88 : decode cX7_told 88 = .ok (.iload_n 2, 1) := by decide +kernel
theorem dX7_told_89 : decode cX7_told 89 = .ok (.aload 4, 2) := by decide +kernel
theorem dX7_told_91 : decode cX7_told 91 = .ok (.getfield 146, 3) := by decide +kernel
theorem dX7_told_94 : decode cX7_told 94 = .ok (.invokevirtual 155, 3) := by decide +kernel
theorem dX7_told_97 : decode cX7_told 97 = .ok (.ireturn, 1) := by decide +kernel
theorem dX7_told_98 : decode cX7_told 98 = .ok (.bipush (-2), 2) := by decide +kernel
theorem dX7_told_100 : decode cX7_told 100 = .ok (.ireturn, 1) := by decide +kernel
theorem dX7_feed_0 : decode cX7_feed 0 = .ok (.iload_n 1, 1) := by decide +kernel
theorem dX7_feed_1 : decode cX7_feed 1 = .ok (.iconst 1, 1) := by decide +kernel
theorem dX7_feed_2 : decode cX7_feed 2 = .ok (.bipush 8, 2) := by decide +kernel
theorem dX7_feed_4 : decode cX7_feed 4 = .ok (.invokestatic 106, 3) := by decide +kernel
theorem dX7_feed_7 : decode cX7_feed 7 = .ok (.ifCond .ne 6, 3) := by decide +kernel
theorem dX7_feed_10 : decode cX7_feed 10 = .ok (.bipush (-2), 2) := by decide +kernel
theorem dX7_feed_12 : decode cX7_feed 12 = .ok (.ireturn, 1) := by decide +kernel
theorem dX7_feed_13 : decode cX7_feed 13 = .ok (.aload_n 0, 1) := by decide +kernel
theorem dX7_feed_14 : decode cX7_feed 14 = .ok (.getfield 50, 3) := by decide +kernel
theorem dX7_feed_17 : decode cX7_feed 17 = .ok (.getfield 158, 3) := by decide +kernel
theorem dX7_feed_20 : decode cX7_feed 20 = .ok (.iload_n 1, 1) := by decide +kernel
theorem dX7_feed_21 : decode cX7_feed 21 = .ok (.iadd, 1) := by decide +kernel
theorem dX7_feed_22 : decode cX7_feed 22 = .ok (.sipush 160, 3) := by decide +kernel
theorem dX7_feed_25 : decode cX7_feed 25 = .ok (.if_icmp .le 6, 3) := by decide +kernel
theorem dX7_feed_28 : decode cX7_feed 28 = .ok (.bipush (-4), 2) := by decide +kernel
theorem dX7_feed_30 : decode cX7_feed 30 = .ok (.ireturn, 1) := by decide +kernel
theorem dX7_feed_31 : decode cX7_feed 31 = .ok (.iconst 0, 1) := by decide +kernel
theorem dX7_feed_32 : decode cX7_feed 32 = .ok (.istore 4, 2) := by decide +kernel
theorem dX7_feed_34 : decode cX7_feed 34 = .ok (.iload 4, 2) := by decide +kernel
theorem dX7_feed_36 : decode cX7_feed 36 = .ok (.iload_n 1, 1) := by decide +kernel
theorem dX7_feed_37 : decode cX7_feed 37 = .ok (.if_icmp .ge 28, 3) := by decide +kernel
theorem dX7_feed_40 : decode cX7_feed 40 = .ok (.aload_n 0, 1) := by decide +kernel
theorem dX7_feed_41 : decode cX7_feed 41 = .ok (.getfield 50, 3) := by decide +kernel
theorem dX7_feed_44 : decode cX7_feed 44 = .ok (.lload_n 2, 1) := by decide +kernel
theorem dX7_feed_45 : decode cX7_feed 45 = .ok (.bipush 8, 2) := by decide +kernel
theorem dX7_feed_47 : decode cX7_feed 47 = .ok (.iload 4, 2) := by decide +kernel
theorem dX7_feed_49 : decode cX7_feed 49 = .ok (.imul, 1) := by decide +kernel
theorem dX7_feed_50 : decode cX7_feed 50 = .ok (.lushr, 1) := by decide +kernel
theorem dX7_feed_51 : decode cX7_feed 51 = .ok (.l2i, 1) := by decide +kernel
theorem dX7_feed_52 : decode cX7_feed 52 = .ok (.sipush 255, 3) := by decide +kernel
theorem dX7_feed_55 : decode cX7_feed 55 = .ok (.iand, 1) := by decide +kernel
theorem dX7_feed_56 : decode cX7_feed 56 = .ok (.invokevirtual 94, 3) := by decide +kernel
theorem dX7_feed_59 : decode cX7_feed 59 = .ok (.iinc 4 1, 3) := by decide +kernel
theorem dX7_feed_62 : decode cX7_feed 62 = .ok (.goto (-28), 3) := by decide +kernel
theorem dX7_feed_65 : decode cX7_feed 65 = .ok (.aload_n 0, 1) := by decide +kernel
theorem dX7_feed_66 : decode cX7_feed 66 = .ok (.getfield 50, 3) := by decide +kernel
theorem dX7_feed_69 : decode cX7_feed 69 = .ok (.getfield 158, 3) := by decide +kernel
theorem dX7_feed_72 : decode cX7_feed 72 = .ok (.ireturn, 1) := by decide +kernel
theorem dX7_text_0 : decode cX7_text 0 = .ok (.aload_n 0, 1) := by decide +kernel
theorem dX7_text_1 : decode cX7_text 1 = .ok (.getfield 60, 3) := by decide +kernel
theorem dX7_text_4 : decode cX7_text 4 = .ok (.bipush 6, 2) := by decide +kernel
theorem dX7_text_6 : decode cX7_text 6 = .ok (.if_icmp .lt 6, 3) := by decide +kernel
theorem dX7_text_9 : decode cX7_text 9 = .ok (.bipush (-4), 2) := by decide +kernel
theorem dX7_text_11 : decode cX7_text 11 = .ok (.ireturn, 1) := by decide +kernel
theorem dX7_text_12 : decode cX7_text 12 = .ok (.aload_n 0, 1) := by decide +kernel
theorem dX7_text_13 : decode cX7_text 13 = .ok (.getfield 50, 3) := by decide +kernel
theorem dX7_text_16 : decode cX7_text 16 = .ok (.aload_n 0, 1) := by decide +kernel
theorem dX7_text_17 : decode cX7_text 17 = .ok (.getfield 56, 3) := by decide +kernel
theorem dX7_text_20 : decode cX7_text 20 = .ok (.aload_n 0, 1) := by decide +kernel
theorem dX7_text_21 : decode cX7_text 21 = .ok (.getfield 60, 3) := by decide +kernel
theorem dX7_text_24 : decode cX7_text 24 = .ok (.aaload, 1) := by decide +kernel
theorem dX7_text_25 : decode cX7_text 25 = .ok (.invokevirtual 98, 3) := by decide +kernel
theorem dX7_text_28 : decode cX7_text 28 = .ok (.istore_n 1, 1) := by decide +kernel
theorem dX7_text_29 : decode cX7_text 29 = .ok (.aload_n 0, 1) := by decide +kernel
theorem dX7_text_30 : decode cX7_text 30 = .ok (.getfield 50, 3) := by decide +kernel
theorem dX7_text_33 : decode cX7_text 33 = .ok (.invokevirtual 161, 3) := by decide +kernel
theorem dX7_text_36 : decode cX7_text 36 = .ok (.iload_n 1, 1) := by decide +kernel
theorem dX7_text_37 : decode cX7_text 37 = .ok (.iconst (-1), 1) := by decide +kernel
theorem dX7_text_38 : decode cX7_text 38 = .ok (.if_icmp .eq 8, 3) := by decide +kernel
theorem dX7_text_41 : decode cX7_text 41 = .ok (.bipush (-100), 2) := by decide +kernel
theorem dX7_text_43 : decode cX7_text 43 = .ok (.iload_n 1, 1) := by decide +kernel
theorem dX7_text_44 : decode cX7_text 44 = .ok (.isub, 1) := by decide +kernel
theorem dX7_text_45 : decode cX7_text 45 = .ok (.ireturn, 1) := by decide +kernel
theorem dX7_text_46 : decode cX7_text 46 = .ok (.aload_n 0, 1) := by decide +kernel
theorem dX7_text_47 : decode cX7_text 47 = .ok (.dup, 1) := by decide +kernel
theorem dX7_text_48 : decode cX7_text 48 = .ok (.getfield 60, 3) := by decide +kernel
theorem dX7_text_51 : decode cX7_text 51 = .ok (.dup_x1, 1) := by decide +kernel
theorem dX7_text_52 : decode cX7_text 52 = .ok (.iconst 1, 1) := by decide +kernel
theorem dX7_text_53 : decode cX7_text 53 = .ok (.iadd, 1) := by decide +kernel
theorem dX7_text_54 : decode cX7_text 54 = .ok (.putfield 60, 3) := by decide +kernel
theorem dX7_text_57 : decode cX7_text 57 = .ok (.ireturn, 1) := by decide +kernel
theorem dX7_force_0 : decode cX7_force 0 = .ok (.iload_n 1, 1) := by decide +kernel
theorem dX7_force_1 : decode cX7_force 1 = .ok (.iconst 0, 1) := by decide +kernel
theorem dX7_force_2 : decode cX7_force 2 = .ok (.aload_n 0, 1) := by decide +kernel
theorem dX7_force_3 : decode cX7_force 3 = .ok (.getfield 60, 3) := by decide +kernel
theorem dX7_force_6 : decode cX7_force 6 = .ok (.iconst 1, 1) := by decide +kernel
theorem dX7_force_7 : decode cX7_force 7 = .ok (.isub, 1) := by decide +kernel
theorem dX7_force_8 : decode cX7_force 8 = .ok (.invokestatic 106, 3) := by decide +kernel
theorem dX7_force_11 : decode cX7_force 11 = .ok (.ifCond .ne 6, 3) := by decide +kernel
theorem dX7_force_14 : decode cX7_force 14 = .ok (.bipush (-2), 2) := by decide +kernel
theorem dX7_force_16 : decode cX7_force 16 = .ok (.ireturn, 1) := by decide +kernel
theorem dX7_force_17 : decode cX7_force 17 = .ok (.aload_n 0, 1) := by decide +kernel
theorem dX7_force_18 : decode cX7_force 18 = .ok (.getfield 10, 3) := by decide +kernel
theorem dX7_force_21 : decode cX7_force 21 = .ok (.getfield 164, 3) := by decide +kernel
theorem dX7_force_24 : decode cX7_force 24 = .ok (.istore_n 2, 1) := by decide +kernel
theorem dX7_force_25 : decode cX7_force 25 = .ok (.aload_n 0, 1) := by decide +kernel
theorem dX7_force_26 : decode cX7_force 26 = .ok (.getfield 10, 3) := by decide +kernel
theorem dX7_force_29 : decode cX7_force 29 = .ok (.iload_n 1, 1) := by decide +kernel
theorem dX7_force_30 : decode cX7_force 30 = .ok (.putfield 164, 3) := by decide +kernel
theorem dX7_force_33 : decode cX7_force 33 = .ok (.iload_n 2, 1) := by decide +kernel
theorem dX7_force_34 : decode cX7_force 34 = .ok (.ireturn, 1) := by decide +kernel
theorem dX7_left_0 : decode cX7_left 0 = .ok (.aload_n 0, 1) := by decide +kernel
theorem dX7_left_1 : decode cX7_left 1 = .ok (.iload_n 1, 1) := by decide +kernel
theorem dX7_left_2 : decode cX7_left 2 = .ok (.invokevirtual 139, 3) := by decide +kernel
theorem dX7_left_5 : decode cX7_left 5 = .ok (.astore_n 3, 1) := by decide +kernel
theorem dX7_left_6 : decode cX7_left 6 = .ok (.aload_n 3, 1) := by decide +kernel
theorem dX7_left_7 : decode cX7_left 7 = .ok (.ifnull 11, 3) := by decide +kernel
theorem dX7_left_10 : decode cX7_left 10 = .ok (.aload_n 0, 1) := by decide +kernel
theorem dX7_left_11 : decode cX7_left 11 = .ok (.iload_n 2, 1) := by decide +kernel
theorem dX7_left_12 : decode cX7_left 12 = .ok (.invokevirtual 167, 3) := by decide +kernel
theorem dX7_left_15 : decode cX7_left 15 = .ok (.ifCond .ne 6, 3) := by decide +kernel
theorem dX7_left_18 : decode cX7_left 18 = .ok (.bipush (-2), 2) := by decide +kernel
theorem dX7_left_20 : decode cX7_left 20 = .ok (.ireturn, 1) := by decide +kernel
theorem dX7_left_21 : decode cX7_left 21 = .ok (.aload_n 0, 1) := by decide +kernel
theorem dX7_left_22 : decode cX7_left 22 = .ok (.aload_n 3, 1) := by decide +kernel
theorem dX7_left_23 : decode cX7_left 23 = .ok (.invokevirtual 170, 3) := by decide +kernel
theorem dX7_left_26 : decode cX7_left 26 = .ok (.aload_n 0, 1) := by decide +kernel
theorem dX7_left_27 : decode cX7_left 27 = .ok (.getfield 72, 3) := by decide +kernel
theorem dX7_left_30 : decode cX7_left 30 = .ok (.aload_n 0, 1) := by decide +kernel
theorem dX7_left_31 : decode cX7_left 31 = .ok (.getfield 10, 3) := by decide +kernel
theorem dX7_left_34 : decode cX7_left 34 = .ok (.iload_n 2, 1) := by decide +kernel
theorem dX7_left_35 : decode cX7_left 35 = .ok (.invokevirtual 174, 3) := by decide +kernel
theorem dX7_left_38 : decode cX7_left 38 = .ok (.ireturn, 1) := by decide +kernel
theorem dX7_harm_0 : decode cX7_harm 0 = .ok (.aload_n 0, 1) := by decide +kernel
theorem dX7_harm_1 : decode cX7_harm 1 = .ok (.iload_n 1, 1) := by decide +kernel
theorem dX7_harm_2 : decode cX7_harm 2 = .ok (.invokevirtual 139, 3) := by decide +kernel
theorem dX7_harm_5 : decode cX7_harm 5 = .ok (.astore_n 2, 1) := by decide +kernel
theorem dX7_harm_6 : decode cX7_harm 6 = .ok (.aload_n 2, 1) := by decide +kernel
theorem dX7_harm_7 : decode cX7_harm 7 = .ok (.ifnonnull 7, 3) := by decide +kernel
theorem dX7_harm_10 : decode cX7_harm 10 = .ok (.ldc2_w 178, 3) := by decide +kernel
theorem dX7_harm_13 : decode cX7_harm 13 = .ok (.lreturn, 1) := by decide +kernel
theorem dX7_harm_14 : decode cX7_harm 14 = .ok (.aload_n 0, 1) := by decide +kernel
theorem dX7_harm_15 : decode cX7_harm 15 = .ok (.aload_n 2, 1) := by decide +kernel
theorem dX7_harm_16 : decode cX7_harm 16 = .ok (.invokevirtual 170, 3) := by decide +kernel
theorem dX7_harm_19 : decode cX7_harm 19 = .ok (.aload_n 0, 1) := by decide +kernel
theorem dX7_harm_20 : decode cX7_harm 20 = .ok (.getfield 72, 3) := by decide +kernel
theorem dX7_harm_23 : decode cX7_harm 23 = .ok (.aload_n 0, 1) := by decide +kernel
theorem dX7_harm_24 : decode cX7_harm 24 = .ok (.getfield 10, 3) := by decide +kernel
theorem dX7_harm_27 : decode cX7_harm 27 = .ok (.aload_n 0, 1) := by decide +kernel
theorem dX7_harm_28 : decode cX7_harm 28 = .ok (.getfield 56, 3) := by decide +kernel
theorem dX7_harm_31 : decode cX7_harm 31 = .ok (.aload_n 0, 1) := by decide +kernel
theorem dX7_harm_32 : decode cX7_harm 32 = .ok (.getfield 10, 3) := by decide +kernel
theorem dX7_harm_35 : decode cX7_harm 35 = .ok (.getfield 164, 3) := by decide +kernel
theorem dX7_harm_38 : decode cX7_harm 38 = .ok (.aaload, 1) := by decide +kernel
theorem dX7_harm_39 : decode cX7_harm 39 = .ok (.invokevirtual 180, 3) := by decide +kernel
theorem dX7_harm_42 : decode cX7_harm 42 = .ok (.lreturn, 1) := by decide +kernel
theorem dX7_rode_0 : decode cX7_rode 0 = .ok (.aload_n 0, 1) := by decide +kernel
theorem dX7_rode_1 : decode cX7_rode 1 = .ok (.iload_n 1, 1) := by decide +kernel
theorem dX7_rode_2 : decode cX7_rode 2 = .ok (.invokevirtual 139, 3) := by decide +kernel
theorem dX7_rode_5 : decode cX7_rode 5 = .ok (.astore_n 3, 1) := by decide +kernel
theorem dX7_rode_6 : decode cX7_rode 6 = .ok (.aload_n 3, 1) := by decide +kernel
theorem dX7_rode_7 : decode cX7_rode 7 = .ok (.ifnull 20, 3) := by decide +kernel
theorem dX7_rode_10 : decode cX7_rode 10 = .ok (.iload_n 2, 1) := by decide +kernel
theorem dX7_rode_11 : decode cX7_rode 11 = .ok (.iconst (-1), 1) := by decide +kernel
theorem dX7_rode_12 : decode cX7_rode 12 = .ok (.aload_n 0, 1) := by decide +kernel
theorem dX7_rode_13 : decode cX7_rode 13 = .ok (.getfield 26, 3) := by decide +kernel
theorem dX7_rode_16 : decode cX7_rode 16 = .ok (.getfield 184, 3) := by decide +kernel
theorem dX7_rode_19 : decode cX7_rode 19 = .ok (.iconst 1, 1) := by decide +kernel
theorem dX7_rode_20 : decode cX7_rode 20 = .ok (.isub, 1) := by decide +kernel
theorem dX7_rode_21 : decode cX7_rode 21 = .ok (.invokestatic 106, 3) := by decide +kernel
theorem dX7_rode_24 : decode cX7_rode 24 = .ok (.ifCond .ne 6, 3) := by decide +kernel
theorem dX7_rode_27 : decode cX7_rode 27 = .ok (.bipush (-2), 2) := by decide +kernel
theorem dX7_rode_29 : decode cX7_rode 29 = .ok (.ireturn, 1) := by decide +kernel
theorem dX7_rode_30 : decode cX7_rode 30 = .ok (.aload_n 0, 1) := by decide +kernel
theorem dX7_rode_31 : decode cX7_rode 31 = .ok (.aload_n 3, 1) := by decide +kernel
theorem dX7_rode_32 : decode cX7_rode 32 = .ok (.invokevirtual 170, 3) := by decide +kernel
theorem dX7_rode_35 : decode cX7_rode 35 = .ok (.iload_n 2, 1) := by decide +kernel
theorem dX7_rode_36 : decode cX7_rode 36 = .ok (.iconst (-1), 1) := by decide +kernel
theorem dX7_rode_37 : decode cX7_rode 37 = .ok (.if_icmp .ne 17, 3) := by decide +kernel
theorem dX7_rode_40 : decode cX7_rode 40 = .ok (.aload_n 0, 1) := by decide +kernel
theorem dX7_rode_41 : decode cX7_rode 41 = .ok (.getfield 72, 3) := by decide +kernel
theorem dX7_rode_44 : decode cX7_rode 44 = .ok (.aload_n 0, 1) := by decide +kernel
theorem dX7_rode_45 : decode cX7_rode 45 = .ok (.getfield 10, 3) := by decide +kernel
theorem dX7_rode_48 : decode cX7_rode 48 = .ok (.invokevirtual 185, 3) := by decide +kernel
theorem dX7_rode_51 : decode cX7_rode 51 = .ok (.goto 12, 3) := by decide +kernel
theorem dX7_rode_54 : decode cX7_rode 54 = .ok (.aload_n 0, 1) := by decide +kernel
theorem dX7_rode_55 : decode cX7_rode 55 = .ok (.getfield 72, 3) := by decide +kernel
theorem dX7_rode_58 : decode cX7_rode 58 = .ok (.getfield 189, 3) := by decide +kernel
theorem dX7_rode_61 : decode cX7_rode 61 = .ok (.iload_n 2, 1) := by decide +kernel
theorem dX7_rode_62 : decode cX7_rode 62 = .ok (.iaload, 1) := by decide +kernel
theorem dX7_rode_63 : decode cX7_rode 63 = .ok (.ireturn, 1) := by decide +kernel
theorem dX7_waits_0 : decode cX7_waits 0 = .ok (.aload_n 0, 1) := by decide +kernel
theorem dX7_waits_1 : decode cX7_waits 1 = .ok (.iload_n 1, 1) := by decide +kernel
theorem dX7_waits_2 : decode cX7_waits 2 = .ok (.invokevirtual 139, 3) := by decide +kernel
theorem dX7_waits_5 : decode cX7_waits 5 = .ok (.astore_n 3, 1) := by decide +kernel
theorem dX7_waits_6 : decode cX7_waits 6 = .ok (.aload_n 3, 1) := by decide +kernel
theorem dX7_waits_7 : decode cX7_waits 7 = .ok (.ifnull 12, 3) := by decide +kernel
theorem dX7_waits_10 : decode cX7_waits 10 = .ok (.iload_n 2, 1) := by decide +kernel
theorem dX7_waits_11 : decode cX7_waits 11 = .ok (.iconst 0, 1) := by decide +kernel
theorem dX7_waits_12 : decode cX7_waits 12 = .ok (.iconst 1, 1) := by decide +kernel
theorem dX7_waits_13 : decode cX7_waits 13 = .ok (.invokestatic 106, 3) := by decide +kernel
theorem dX7_waits_16 : decode cX7_waits 16 = .ok (.ifCond .ne 6, 3) := by decide +kernel
theorem dX7_waits_19 : decode cX7_waits 19 = .ok (.bipush (-2), 2) := by decide +kernel
theorem dX7_waits_21 : decode cX7_waits 21 = .ok (.ireturn, 1) := by decide +kernel
theorem dX7_waits_22 : decode cX7_waits 22 = .ok (.aload_n 0, 1) := by decide +kernel
theorem dX7_waits_23 : decode cX7_waits 23 = .ok (.aload_n 3, 1) := by decide +kernel
theorem dX7_waits_24 : decode cX7_waits 24 = .ok (.invokevirtual 170, 3) := by decide +kernel
theorem dX7_waits_27 : decode cX7_waits 27 = .ok (.iload_n 2, 1) := by decide +kernel
theorem dX7_waits_28 : decode cX7_waits 28 = .ok (.ifCond .ne 13, 3) := by decide +kernel
theorem dX7_waits_31 : decode cX7_waits 31 = .ok (.aload_n 0, 1) := by decide +kernel
theorem dX7_waits_32 : decode cX7_waits 32 = .ok (.getfield 72, 3) := by decide +kernel
theorem dX7_waits_35 : decode cX7_waits 35 = .ok (.getfield 193, 3) := by decide +kernel
theorem dX7_waits_38 : decode cX7_waits 38 = .ok (.goto 10, 3) := by decide +kernel
theorem dX7_waits_41 : decode cX7_waits 41 = .ok (.aload_n 0, 1) := by decide +kernel
theorem dX7_waits_42 : decode cX7_waits 42 = .ok (.getfield 72, 3) := by decide +kernel
theorem dX7_waits_45 : decode cX7_waits 45 = .ok (.getfield 196, 3) := by decide +kernel
theorem dX7_waits_48 : decode cX7_waits 48 = .ok (.ireturn, 1) := by decide +kernel
theorem dX7_down_0 : decode cX7_down 0 = .ok (.aload_n 0, 1) := by decide +kernel
theorem dX7_down_1 : decode cX7_down 1 = .ok (.iload_n 1, 1) := by decide +kernel
theorem dX7_down_2 : decode cX7_down 2 = .ok (.invokevirtual 139, 3) := by decide +kernel
theorem dX7_down_5 : decode cX7_down 5 = .ok (.astore 4, 2) := by decide +kernel
theorem dX7_down_7 : decode cX7_down 7 = .ok (.aload 4, 2) := by decide +kernel
theorem dX7_down_9 : decode cX7_down 9 = .ok (.ifnull 28, 3) := by decide +kernel
theorem dX7_down_12 : decode cX7_down 12 = .ok (.aload_n 0, 1) := by decide +kernel
theorem dX7_down_13 : decode cX7_down 13 = .ok (.iload_n 2, 1) := by decide +kernel
theorem dX7_down_14 : decode cX7_down 14 = .ok (.invokevirtual 167, 3) := by decide +kernel
theorem dX7_down_17 : decode cX7_down 17 = .ok (.ifCond .eq 20, 3) := by decide +kernel
theorem dX7_down_20 : decode cX7_down 20 = .ok (.iload_n 3, 1) := by decide +kernel
theorem dX7_down_21 : decode cX7_down 21 = .ok (.iconst 0, 1) := by decide +kernel
theorem dX7_down_22 : decode cX7_down 22 = .ok (.aload_n 0, 1) := by decide +kernel
theorem dX7_down_23 : decode cX7_down 23 = .ok (.getfield 10, 3) := by decide +kernel
theorem dX7_down_26 : decode cX7_down 26 = .ok (.getfield 122, 3) := by decide +kernel
theorem dX7_down_29 : decode cX7_down 29 = .ok (.iconst 1, 1) := by decide +kernel
theorem dX7_down_30 : decode cX7_down 30 = .ok (.isub, 1) := by decide +kernel
theorem dX7_down_31 : decode cX7_down 31 = .ok (.invokestatic 106, 3) := by decide +kernel
theorem dX7_down_34 : decode cX7_down 34 = .ok (.ifCond .ne 6, 3) := by decide +kernel
theorem dX7_down_37 : decode cX7_down 37 = .ok (.bipush (-2), 2) := by decide +kernel
theorem dX7_down_39 : decode cX7_down 39 = .ok (.ireturn, 1) := by decide +kernel
theorem dX7_down_40 : decode cX7_down 40 = .ok (.aload_n 0, 1) := by decide +kernel
theorem dX7_down_41 : decode cX7_down 41 = .ok (.aload 4, 2) := by decide +kernel
theorem dX7_down_43 : decode cX7_down 43 = .ok (.invokevirtual 170, 3) := by decide +kernel
theorem dX7_down_46 : decode cX7_down 46 = .ok (.aload_n 0, 1) := by decide +kernel
theorem dX7_down_47 : decode cX7_down 47 = .ok (.getfield 72, 3) := by decide +kernel
theorem dX7_down_50 : decode cX7_down 50 = .ok (.aload_n 0, 1) := by decide +kernel
theorem dX7_down_51 : decode cX7_down 51 = .ok (.getfield 10, 3) := by decide +kernel
theorem dX7_down_54 : decode cX7_down 54 = .ok (.iload_n 2, 1) := by decide +kernel
theorem dX7_down_55 : decode cX7_down 55 = .ok (.iload_n 3, 1) := by decide +kernel
theorem dX7_down_56 : decode cX7_down 56 = .ok (.invokevirtual 199, 3) := by decide +kernel
theorem dX7_down_59 : decode cX7_down 59 = .ok (.ireturn, 1) := by decide +kernel
theorem dX7_behind_0 : decode cX7_behind 0 = .ok (.aload_n 0, 1) := by decide +kernel
theorem dX7_behind_1 : decode cX7_behind 1 = .ok (.iload_n 1, 1) := by decide +kernel
theorem dX7_behind_2 : decode cX7_behind 2 = .ok (.invokevirtual 139, 3) := by decide +kernel
theorem dX7_behind_5 : decode cX7_behind 5 = .ok (.astore_n 3, 1) := by decide +kernel
theorem dX7_behind_6 : decode cX7_behind 6 = .ok (.aload_n 3, 1) := by decide +kernel
theorem dX7_behind_7 : decode cX7_behind 7 = .ok (.ifnull 14, 3) := by decide +kernel
theorem dX7_behind_10 : decode cX7_behind 10 = .ok (.iload_n 2, 1) := by decide +kernel
theorem dX7_behind_11 : decode cX7_behind 11 = .ok (.iconst 0, 1) := by decide +kernel
theorem dX7_behind_12 : decode cX7_behind 12 = .ok (.sipush 2400, 3) := by decide +kernel
theorem dX7_behind_15 : decode cX7_behind 15 = .ok (.invokestatic 106, 3) := by decide +kernel
theorem dX7_behind_18 : decode cX7_behind 18 = .ok (.ifCond .ne 6, 3) := by decide +kernel
theorem dX7_behind_21 : decode cX7_behind 21 = .ok (.bipush (-2), 2) := by decide +kernel
theorem dX7_behind_23 : decode cX7_behind 23 = .ok (.ireturn, 1) := by decide +kernel
theorem dX7_behind_24 : decode cX7_behind 24 = .ok (.aload_n 0, 1) := by decide +kernel
theorem dX7_behind_25 : decode cX7_behind 25 = .ok (.aload_n 3, 1) := by decide +kernel
theorem dX7_behind_26 : decode cX7_behind 26 = .ok (.invokevirtual 170, 3) := by decide +kernel
theorem dX7_behind_29 : decode cX7_behind 29 = .ok (.iconst 0, 1) := by decide +kernel
theorem dX7_behind_30 : decode cX7_behind 30 = .ok (.istore 4, 2) := by decide +kernel
theorem dX7_behind_32 : decode cX7_behind 32 = .ok (.iload 4, 2) := by decide +kernel
theorem dX7_behind_34 : decode cX7_behind 34 = .ok (.aload_n 0, 1) := by decide +kernel
theorem dX7_behind_35 : decode cX7_behind 35 = .ok (.getfield 10, 3) := by decide +kernel
theorem dX7_behind_38 : decode cX7_behind 38 = .ok (.getfield 122, 3) := by decide +kernel
theorem dX7_behind_41 : decode cX7_behind 41 = .ok (.if_icmp .ge 30, 3) := by decide +kernel
theorem dX7_behind_44 : decode cX7_behind 44 = .ok (.aload_n 0, 1) := by decide +kernel
theorem dX7_behind_45 : decode cX7_behind 45 = .ok (.getfield 72, 3) := by decide +kernel
theorem dX7_behind_48 : decode cX7_behind 48 = .ok (.aload_n 0, 1) := by decide +kernel
theorem dX7_behind_49 : decode cX7_behind 49 = .ok (.getfield 10, 3) := by decide +kernel
theorem dX7_behind_52 : decode cX7_behind 52 = .ok (.iconst (-1), 1) := by decide +kernel
theorem dX7_behind_53 : decode cX7_behind 53 = .ok (.iload 4, 2) := by decide +kernel
theorem dX7_behind_55 : decode cX7_behind 55 = .ok (.invokevirtual 199, 3) := by decide +kernel
theorem dX7_behind_58 : decode cX7_behind 58 = .ok (.iload_n 2, 1) := by decide +kernel
theorem dX7_behind_59 : decode cX7_behind 59 = .ok (.if_icmp .lt 6, 3) := by decide +kernel
theorem dX7_behind_62 : decode cX7_behind 62 = .ok (.iload 4, 2) := by decide +kernel
theorem dX7_behind_64 : decode cX7_behind 64 = .ok (.ireturn, 1) := by decide +kernel
theorem dX7_behind_65 : decode cX7_behind 65 = .ok (.iinc 4 1, 3) := by decide +kernel
theorem dX7_behind_68 : decode cX7_behind 68 = .ok (.goto (-36), 3) := by decide +kernel
theorem dX7_behind_71 : decode cX7_behind 71 = .ok (.iconst (-1), 1) := by decide +kernel
theorem dX7_behind_72 : decode cX7_behind 72 = .ok (.ireturn, 1) := by decide +kernel
theorem dX7_latest_0 : decode cX7_latest 0 = .ok (.aload_n 0, 1) := by decide +kernel
theorem dX7_latest_1 : decode cX7_latest 1 = .ok (.iload_n 1, 1) := by decide +kernel
theorem dX7_latest_2 : decode cX7_latest 2 = .ok (.invokevirtual 139, 3) := by decide +kernel
theorem dX7_latest_5 : decode cX7_latest 5 = .ok (.astore_n 3, 1) := by decide +kernel
theorem dX7_latest_6 : decode cX7_latest 6 = .ok (.aload_n 3, 1) := by decide +kernel
theorem dX7_latest_7 : decode cX7_latest 7 = .ok (.ifnull 14, 3) := by decide +kernel
theorem dX7_latest_10 : decode cX7_latest 10 = .ok (.iload_n 2, 1) := by decide +kernel
theorem dX7_latest_11 : decode cX7_latest 11 = .ok (.iconst 0, 1) := by decide +kernel
theorem dX7_latest_12 : decode cX7_latest 12 = .ok (.sipush 2400, 3) := by decide +kernel
theorem dX7_latest_15 : decode cX7_latest 15 = .ok (.invokestatic 106, 3) := by decide +kernel
theorem dX7_latest_18 : decode cX7_latest 18 = .ok (.ifCond .ne 6, 3) := by decide +kernel
theorem dX7_latest_21 : decode cX7_latest 21 = .ok (.bipush (-2), 2) := by decide +kernel
theorem dX7_latest_23 : decode cX7_latest 23 = .ok (.ireturn, 1) := by decide +kernel
theorem dX7_latest_24 : decode cX7_latest 24 = .ok (.aload_n 0, 1) := by decide +kernel
theorem dX7_latest_25 : decode cX7_latest 25 = .ok (.getfield 10, 3) := by decide +kernel
theorem dX7_latest_28 : decode cX7_latest 28 = .ok (.getfield 122, 3) := by decide +kernel
theorem dX7_latest_31 : decode cX7_latest 31 = .ok (.iconst 1, 1) := by decide +kernel
theorem dX7_latest_32 : decode cX7_latest 32 = .ok (.isub, 1) := by decide +kernel
theorem dX7_latest_33 : decode cX7_latest 33 = .ok (.istore 4, 2) := by decide +kernel
theorem dX7_latest_35 : decode cX7_latest 35 = .ok (.iload 4, 2) := by decide +kernel
theorem dX7_latest_37 : decode cX7_latest 37 = .ok (.ifCond .lt 24, 3) := by decide +kernel
theorem dX7_latest_40 : decode cX7_latest 40 = .ok (.aload_n 0, 1) := by decide +kernel
theorem dX7_latest_41 : decode cX7_latest 41 = .ok (.aload_n 3, 1) := by decide +kernel
theorem dX7_latest_42 : decode cX7_latest 42 = .ok (.iload 4, 2) := by decide +kernel
theorem dX7_latest_44 : decode cX7_latest 44 = .ok (.iconst 0, 1) := by decide +kernel
theorem dX7_latest_45 : decode cX7_latest 45 = .ok (.invokevirtual 203, 3) := by decide +kernel
theorem dX7_latest_48 : decode cX7_latest 48 = .ok (.iload_n 2, 1) := by decide +kernel
theorem dX7_latest_49 : decode cX7_latest 49 = .ok (.if_icmp .gt 6, 3) := by decide +kernel
theorem dX7_latest_52 : decode cX7_latest 52 = .ok (.iload 4, 2) := by decide +kernel
theorem dX7_latest_54 : decode cX7_latest 54 = .ok (.ireturn, 1) := by decide +kernel
theorem dX7_latest_55 : decode cX7_latest 55 = .ok (.iinc 4 (-1), 3) := by decide +kernel
theorem dX7_latest_58 : decode cX7_latest 58 = .ok (.goto (-23), 3) := by decide +kernel
theorem dX7_latest_61 : decode cX7_latest 61 = .ok (.iconst (-1), 1) := by decide +kernel
theorem dX7_latest_62 : decode cX7_latest 62 = .ok (.ireturn, 1) := by decide +kernel
theorem dX7_more_0 : decode cX7_more 0 = .ok (.aload_n 0, 1) := by decide +kernel
theorem dX7_more_1 : decode cX7_more 1 = .ok (.iload_n 1, 1) := by decide +kernel
theorem dX7_more_2 : decode cX7_more 2 = .ok (.invokevirtual 139, 3) := by decide +kernel
theorem dX7_more_5 : decode cX7_more 5 = .ok (.astore_n 3, 1) := by decide +kernel
theorem dX7_more_6 : decode cX7_more 6 = .ok (.aload_n 3, 1) := by decide +kernel
theorem dX7_more_7 : decode cX7_more 7 = .ok (.ifnull 24, 3) := by decide +kernel
theorem dX7_more_10 : decode cX7_more 10 = .ok (.iload_n 2, 1) := by decide +kernel
theorem dX7_more_11 : decode cX7_more 11 = .ok (.iconst 0, 1) := by decide +kernel
theorem dX7_more_12 : decode cX7_more 12 = .ok (.sipush 2400, 3) := by decide +kernel
theorem dX7_more_15 : decode cX7_more 15 = .ok (.invokestatic 106, 3) := by decide +kernel
theorem dX7_more_18 : decode cX7_more 18 = .ok (.ifCond .eq 13, 3) := by decide +kernel
theorem dX7_more_21 : decode cX7_more 21 = .ok (.aload_n 0, 1) := by decide +kernel
theorem dX7_more_22 : decode cX7_more 22 = .ok (.getfield 26, 3) := by decide +kernel
theorem dX7_more_25 : decode cX7_more 25 = .ok (.getfield 184, 3) := by decide +kernel
theorem dX7_more_28 : decode cX7_more 28 = .ok (.ifCond .ne 6, 3) := by decide +kernel
theorem dX7_more_31 : decode cX7_more 31 = .ok (.bipush (-2), 2) := by decide +kernel
theorem dX7_more_33 : decode cX7_more 33 = .ok (.ireturn, 1) := by decide +kernel
theorem dX7_more_34 : decode cX7_more 34 = .ok (.iconst 0, 1) := by decide +kernel
theorem dX7_more_35 : decode cX7_more 35 = .ok (.istore 4, 2) := by decide +kernel
theorem dX7_more_37 : decode cX7_more 37 = .ok (.iload 4, 2) := by decide +kernel
theorem dX7_more_39 : decode cX7_more 39 = .ok (.bipush 20, 2) := by decide +kernel
theorem dX7_more_41 : decode cX7_more 41 = .ok (.if_icmp .gt 27, 3) := by decide +kernel
theorem dX7_more_44 : decode cX7_more 44 = .ok (.aload_n 0, 1) := by decide +kernel
theorem dX7_more_45 : decode cX7_more 45 = .ok (.aload_n 3, 1) := by decide +kernel
theorem dX7_more_46 : decode cX7_more 46 = .ok (.aload_n 3, 1) := by decide +kernel
theorem dX7_more_47 : decode cX7_more 47 = .ok (.getfield 146, 3) := by decide +kernel
theorem dX7_more_50 : decode cX7_more 50 = .ok (.iload 4, 2) := by decide +kernel
theorem dX7_more_52 : decode cX7_more 52 = .ok (.invokevirtual 203, 3) := by decide +kernel
theorem dX7_more_55 : decode cX7_more 55 = .ok (.iload_n 2, 1) := by decide +kernel
theorem dX7_more_56 : decode cX7_more 56 = .ok (.if_icmp .gt 6, 3) := by decide +kernel
theorem dX7_more_59 : decode cX7_more 59 = .ok (.iload 4, 2) := by decide +kernel
theorem dX7_more_61 : decode cX7_more 61 = .ok (.ireturn, 1) := by decide +kernel
theorem dX7_more_62 : decode cX7_more 62 = .ok (.iinc 4 1, 3) := by decide +kernel
theorem dX7_more_65 : decode cX7_more 65 = .ok (.goto (-28), 3) := by decide +kernel
theorem dX7_more_68 : decode cX7_more 68 = .ok (.iconst (-1), 1) := by decide +kernel
theorem dX7_more_69 : decode cX7_more 69 = .ok (.ireturn, 1) := by decide +kernel
theorem dX7_choose_0 : decode cX7_choose 0 = .ok (.iload_n 1, 1) := by decide +kernel
theorem dX7_choose_1 : decode cX7_choose 1 = .ok (.iconst 0, 1) := by decide +kernel
theorem dX7_choose_2 : decode cX7_choose 2 = .ok (.iconst 1, 1) := by decide +kernel
theorem dX7_choose_3 : decode cX7_choose 3 = .ok (.invokestatic 106, 3) := by decide +kernel
theorem dX7_choose_6 : decode cX7_choose 6 = .ok (.ifCond .ne 7, 3) := by decide +kernel
theorem dX7_choose_9 : decode cX7_choose 9 = .ok (.ldc2_w 178, 3) := by decide +kernel
theorem dX7_choose_12 : decode cX7_choose 12 = .ok (.lreturn, 1) := by decide +kernel
theorem dX7_choose_13 : decode cX7_choose 13 = .ok (.iconst (-1), 1) := by decide +kernel
theorem dX7_choose_14 : decode cX7_choose 14 = .ok (.istore_n 2, 1) := by decide +kernel
theorem dX7_choose_15 : decode cX7_choose 15 = .ok (.ldc2_w 178, 3) := by decide +kernel
theorem dX7_choose_18 : decode cX7_choose 18 = .ok (.lstore_n 3, 1) := by decide +kernel
theorem dX7_choose_19 : decode cX7_choose 19 = .ok (.iconst 0, 1) := by decide +kernel
theorem dX7_choose_20 : decode cX7_choose 20 = .ok (.istore 5, 2) := by decide +kernel
theorem dX7_choose_22 : decode cX7_choose 22 = .ok (.iload 5, 2) := by decide +kernel
theorem dX7_choose_24 : decode cX7_choose 24 = .ok (.aload_n 0, 1) := by decide +kernel
theorem dX7_choose_25 : decode cX7_choose 25 = .ok (.getfield 36, 3) := by decide +kernel
theorem dX7_choose_28 : decode cX7_choose 28 = .ok (.if_icmp .ge 63, 3) := by decide +kernel
theorem dX7_choose_31 : decode cX7_choose 31 = .ok (.aload_n 0, 1) := by decide +kernel
theorem dX7_choose_32 : decode cX7_choose 32 = .ok (.aload_n 0, 1) := by decide +kernel
theorem dX7_choose_33 : decode cX7_choose 33 = .ok (.getfield 32, 3) := by decide +kernel
theorem dX7_choose_36 : decode cX7_choose 36 = .ok (.iload 5, 2) := by decide +kernel
theorem dX7_choose_38 : decode cX7_choose 38 = .ok (.aaload, 1) := by decide +kernel
theorem dX7_choose_39 : decode cX7_choose 39 = .ok (.invokevirtual 170, 3) := by decide +kernel
theorem dX7_choose_42 : decode cX7_choose 42 = .ok (.aload_n 0, 1) := by decide +kernel
theorem dX7_choose_43 : decode cX7_choose 43 = .ok (.getfield 72, 3) := by decide +kernel
theorem dX7_choose_46 : decode cX7_choose 46 = .ok (.aload_n 0, 1) := by decide +kernel
theorem dX7_choose_47 : decode cX7_choose 47 = .ok (.getfield 10, 3) := by decide +kernel
theorem dX7_choose_50 : decode cX7_choose 50 = .ok (.aload_n 0, 1) := by decide +kernel
theorem dX7_choose_51 : decode cX7_choose 51 = .ok (.getfield 56, 3) := by decide +kernel
theorem dX7_choose_54 : decode cX7_choose 54 = .ok (.aload_n 0, 1) := by decide +kernel
theorem dX7_choose_55 : decode cX7_choose 55 = .ok (.getfield 10, 3) := by decide +kernel
theorem dX7_choose_58 : decode cX7_choose 58 = .ok (.getfield 164, 3) := by decide +kernel
theorem dX7_choose_61 : decode cX7_choose 61 = .ok (.aaload, 1) := by decide +kernel
theorem dX7_choose_62 : decode cX7_choose 62 = .ok (.invokevirtual 180, 3) := by decide +kernel
theorem dX7_choose_65 : decode cX7_choose 65 = .ok (.lstore 6, 2) := by decide +kernel
theorem dX7_choose_67 : decode cX7_choose 67 = .ok (.iload_n 2, 1) := by decide +kernel
theorem dX7_choose_68 : decode cX7_choose 68 = .ok (.iconst (-1), 1) := by decide +kernel
theorem dX7_choose_69 : decode cX7_choose 69 = .ok (.if_icmp .eq 10, 3) := by decide +kernel
theorem dX7_choose_72 : decode cX7_choose 72 = .ok (.lload 6, 2) := by decide +kernel
theorem dX7_choose_74 : decode cX7_choose 74 = .ok (.lload_n 3, 1) := by decide +kernel
theorem dX7_choose_75 : decode cX7_choose 75 = .ok (.lcmp, 1) := by decide +kernel
theorem dX7_choose_76 : decode cX7_choose 76 = .ok (.ifCond .ge 9, 3) := by decide +kernel
theorem dX7_choose_79 : decode cX7_choose 79 = .ok (.iload 5, 2) := by decide +kernel
theorem dX7_choose_81 : decode cX7_choose 81 = .ok (.istore_n 2, 1) := by decide +kernel
theorem dX7_choose_82 : decode cX7_choose 82 = .ok (.lload 6, 2) := by decide +kernel
theorem dX7_choose_84 : decode cX7_choose 84 = .ok (.lstore_n 3, 1) := by decide +kernel
theorem dX7_choose_85 : decode cX7_choose 85 = .ok (.iinc 5 1, 3) := by decide +kernel
theorem dX7_choose_88 : decode cX7_choose 88 = .ok (.goto (-66), 3) := by decide +kernel
theorem dX7_choose_91 : decode cX7_choose 91 = .ok (.iload_n 2, 1) := by decide +kernel
theorem dX7_choose_92 : decode cX7_choose 92 = .ok (.iconst (-1), 1) := by decide +kernel
theorem dX7_choose_93 : decode cX7_choose 93 = .ok (.if_icmp .ne 7, 3) := by decide +kernel
theorem dX7_choose_96 : decode cX7_choose 96 = .ok (.ldc2_w 178, 3) := by decide +kernel
theorem dX7_choose_99 : decode cX7_choose 99 = .ok (.lreturn, 1) := by decide +kernel
theorem dX7_choose_100 : decode cX7_choose 100 = .ok (.iload_n 1, 1) := by decide +kernel
theorem dX7_choose_101 : decode cX7_choose 101 = .ok (.ifCond .ne 8, 3) := by decide +kernel
theorem dX7_choose_104 : decode cX7_choose 104 = .ok (.iload_n 2, 1) := by decide +kernel
theorem dX7_choose_105 : decode cX7_choose 105 = .ok (.i2l, 1) := by decide +kernel
theorem dX7_choose_106 : decode cX7_choose 106 = .ok (.goto 4, 3) := by decide +kernel
theorem dX7_choose_109 : decode cX7_choose 109 = .ok (.lload_n 3, 1) := by decide +kernel
theorem dX7_choose_110 : decode cX7_choose 110 = .ok (.lreturn, 1) := by decide +kernel
theorem dX7_must_0 : decode cX7_must 0 = .ok (.iconst 0, 1) := by decide +kernel
theorem dX7_must_1 : decode cX7_must 1 = .ok (.istore_n 1, 1) := by decide +kernel
theorem dX7_must_2 : decode cX7_must 2 = .ok (.iconst 0, 1) := by decide +kernel
theorem dX7_must_3 : decode cX7_must 3 = .ok (.istore_n 2, 1) := by decide +kernel
theorem dX7_must_4 : decode cX7_must 4 = .ok (.iload_n 2, 1) := by decide +kernel
theorem dX7_must_5 : decode cX7_must 5 = .ok (.aload_n 0, 1) := by decide +kernel
theorem dX7_must_6 : decode cX7_must 6 = .ok (.getfield 10, 3) := by decide +kernel
theorem dX7_must_9 : decode cX7_must 9 = .ok (.getfield 122, 3) := by decide +kernel
theorem dX7_must_12 : decode cX7_must 12 = .ok (.if_icmp .ge 31, 3) := by decide +kernel
theorem dX7_must_15 : decode cX7_must 15 = .ok (.aload_n 0, 1) := by decide +kernel
theorem dX7_must_16 : decode cX7_must 16 = .ok (.getfield 10, 3) := by decide +kernel
theorem dX7_must_19 : decode cX7_must 19 = .ok (.iload_n 2, 1) := by decide +kernel
theorem dX7_must_20 : decode cX7_must 20 = .ok (.invokevirtual 207, 3) := by decide +kernel
theorem dX7_must_23 : decode cX7_must 23 = .ok (.ifCond .ne 14, 3) := by decide +kernel
theorem dX7_must_26 : decode cX7_must 26 = .ok (.iload_n 1, 1) := by decide +kernel
theorem dX7_must_27 : decode cX7_must 27 = .ok (.aload_n 0, 1) := by decide +kernel
theorem dX7_must_28 : decode cX7_must 28 = .ok (.getfield 26, 3) := by decide +kernel
theorem dX7_must_31 : decode cX7_must 31 = .ok (.iload_n 2, 1) := by decide +kernel
theorem dX7_must_32 : decode cX7_must 32 = .ok (.invokevirtual 210, 3) := by decide +kernel
theorem dX7_must_35 : decode cX7_must 35 = .ok (.iadd, 1) := by decide +kernel
theorem dX7_must_36 : decode cX7_must 36 = .ok (.istore_n 1, 1) := by decide +kernel
theorem dX7_must_37 : decode cX7_must 37 = .ok (.iinc 2 1, 3) := by decide +kernel
theorem dX7_must_40 : decode cX7_must 40 = .ok (.goto (-36), 3) := by decide +kernel
theorem dX7_must_43 : decode cX7_must 43 = .ok (.iload_n 1, 1) := by decide +kernel
theorem dX7_must_44 : decode cX7_must 44 = .ok (.aload_n 0, 1) := by decide +kernel
theorem dX7_must_45 : decode cX7_must 45 = .ok (.getfield 10, 3) := by decide +kernel
theorem dX7_must_48 : decode cX7_must 48 = .ok (.invokevirtual 213, 3) := by decide +kernel
theorem dX7_must_51 : decode cX7_must 51 = .ok (.isub, 1) := by decide +kernel
theorem dX7_must_52 : decode cX7_must 52 = .ok (.ireturn, 1) := by decide +kernel
theorem dX7_latestUp_0 : decode cX7_latestUp 0 = .ok (.iload_n 1, 1) := by decide +kernel
theorem dX7_latestUp_1 : decode cX7_latestUp 1 = .ok (.iconst 0, 1) := by decide +kernel
theorem dX7_latestUp_2 : decode cX7_latestUp 2 = .ok (.aload_n 0, 1) := by decide +kernel
theorem dX7_latestUp_3 : decode cX7_latestUp 3 = .ok (.getfield 10, 3) := by decide +kernel
theorem dX7_latestUp_6 : decode cX7_latestUp 6 = .ok (.getfield 216, 3) := by decide +kernel
theorem dX7_latestUp_9 : decode cX7_latestUp 9 = .ok (.iconst 1, 1) := by decide +kernel
theorem dX7_latestUp_10 : decode cX7_latestUp 10 = .ok (.isub, 1) := by decide +kernel
theorem dX7_latestUp_11 : decode cX7_latestUp 11 = .ok (.invokestatic 106, 3) := by decide +kernel
theorem dX7_latestUp_14 : decode cX7_latestUp 14 = .ok (.ifCond .ne 6, 3) := by decide +kernel
theorem dX7_latestUp_17 : decode cX7_latestUp 17 = .ok (.bipush (-2), 2) := by decide +kernel
theorem dX7_latestUp_19 : decode cX7_latestUp 19 = .ok (.ireturn, 1) := by decide +kernel
theorem dX7_latestUp_20 : decode cX7_latestUp 20 = .ok (.aload_n 0, 1) := by decide +kernel
theorem dX7_latestUp_21 : decode cX7_latestUp 21 = .ok (.getfield 10, 3) := by decide +kernel
theorem dX7_latestUp_24 : decode cX7_latestUp 24 = .ok (.getfield 122, 3) := by decide +kernel
theorem dX7_latestUp_27 : decode cX7_latestUp 27 = .ok (.iconst 1, 1) := by decide +kernel
theorem dX7_latestUp_28 : decode cX7_latestUp 28 = .ok (.isub, 1) := by decide +kernel
theorem dX7_latestUp_29 : decode cX7_latestUp 29 = .ok (.istore_n 2, 1) := by decide +kernel
theorem dX7_latestUp_30 : decode cX7_latestUp 30 = .ok (.iload_n 2, 1) := by decide +kernel
theorem dX7_latestUp_31 : decode cX7_latestUp 31 = .ok (.aload_n 0, 1) := by decide +kernel
theorem dX7_latestUp_32 : decode cX7_latestUp 32 = .ok (.getfield 10, 3) := by decide +kernel
theorem dX7_latestUp_35 : decode cX7_latestUp 35 = .ok (.getfield 219, 3) := by decide +kernel
theorem dX7_latestUp_38 : decode cX7_latestUp 38 = .ok (.iload_n 1, 1) := by decide +kernel
theorem dX7_latestUp_39 : decode cX7_latestUp 39 = .ok (.iaload, 1) := by decide +kernel
theorem dX7_latestUp_40 : decode cX7_latestUp 40 = .ok (.if_icmp .lt 43, 3) := by decide +kernel
theorem dX7_latestUp_43 : decode cX7_latestUp 43 = .ok (.aload_n 0, 1) := by decide +kernel
theorem dX7_latestUp_44 : decode cX7_latestUp 44 = .ok (.getfield 10, 3) := by decide +kernel
theorem dX7_latestUp_47 : decode cX7_latestUp 47 = .ok (.iload_n 2, 1) := by decide +kernel
theorem dX7_latestUp_48 : decode cX7_latestUp 48 = .ok (.invokevirtual 207, 3) := by decide +kernel
theorem dX7_latestUp_51 : decode cX7_latestUp 51 = .ok (.ifCond .ne 26, 3) := by decide +kernel
theorem dX7_latestUp_54 : decode cX7_latestUp 54 = .ok (.aload_n 0, 1) := by decide +kernel
theorem dX7_latestUp_55 : decode cX7_latestUp 55 = .ok (.getfield 26, 3) := by decide +kernel
theorem dX7_latestUp_58 : decode cX7_latestUp 58 = .ok (.iload_n 2, 1) := by decide +kernel
theorem dX7_latestUp_59 : decode cX7_latestUp 59 = .ok (.invokevirtual 210, 3) := by decide +kernel
theorem dX7_latestUp_62 : decode cX7_latestUp 62 = .ok (.ifCond .le 15, 3) := by decide +kernel
theorem dX7_latestUp_65 : decode cX7_latestUp 65 = .ok (.iload_n 2, 1) := by decide +kernel
theorem dX7_latestUp_66 : decode cX7_latestUp 66 = .ok (.aload_n 0, 1) := by decide +kernel
theorem dX7_latestUp_67 : decode cX7_latestUp 67 = .ok (.getfield 10, 3) := by decide +kernel
theorem dX7_latestUp_70 : decode cX7_latestUp 70 = .ok (.getfield 219, 3) := by decide +kernel
theorem dX7_latestUp_73 : decode cX7_latestUp 73 = .ok (.iload_n 1, 1) := by decide +kernel
theorem dX7_latestUp_74 : decode cX7_latestUp 74 = .ok (.iaload, 1) := by decide +kernel
theorem dX7_latestUp_75 : decode cX7_latestUp 75 = .ok (.isub, 1) := by decide +kernel
theorem dX7_latestUp_76 : decode cX7_latestUp 76 = .ok (.ireturn, 1) := by decide +kernel
theorem dX7_latestUp_77 : decode cX7_latestUp 77 = .ok (.iinc 2 (-1), 3) := by decide +kernel
theorem dX7_latestUp_80 : decode cX7_latestUp 80 = .ok (.goto (-50), 3) := by decide +kernel
theorem dX7_latestUp_83 : decode cX7_latestUp 83 = .ok (.iconst (-1), 1) := by decide +kernel
theorem dX7_latestUp_84 : decode cX7_latestUp 84 = .ok (.ireturn, 1) := by decide +kernel
theorem dX7_judge_0 : decode cX7_judge 0 = .ok (.iload_n 1, 1) := by decide +kernel
theorem dX7_judge_1 : decode cX7_judge 1 = .ok (.invokestatic 222, 3) := by decide +kernel
theorem dX7_judge_4 : decode cX7_judge 4 = .ok (.ifCond .ne 6, 3) := by decide +kernel
theorem dX7_judge_7 : decode cX7_judge 7 = .ok (.bipush (-2), 2) := by decide +kernel
theorem dX7_judge_9 : decode cX7_judge 9 = .ok (.ireturn, 1) := by decide +kernel
theorem dX7_judge_10 : decode cX7_judge 10 = .ok (.aload_n 0, 1) := by decide +kernel
theorem dX7_judge_11 : decode cX7_judge 11 = .ok (.getfield 65, 3) := by decide +kernel
theorem dX7_judge_14 : decode cX7_judge 14 = .ok (.iload_n 1, 1) := by decide +kernel
theorem dX7_judge_15 : decode cX7_judge 15 = .ok (.aaload, 1) := by decide +kernel
theorem dX7_judge_16 : decode cX7_judge 16 = .ok (.astore_n 2, 1) := by decide +kernel
theorem dX7_judge_17 : decode cX7_judge 17 = .ok (.aload_n 2, 1) := by decide +kernel
theorem dX7_judge_18 : decode cX7_judge 18 = .ok (.getfield 225, 3) := by decide +kernel
theorem dX7_judge_21 : decode cX7_judge 21 = .ok (.iconst (-1), 1) := by decide +kernel
theorem dX7_judge_22 : decode cX7_judge 22 = .ok (.if_icmp .ne 6, 3) := by decide +kernel
theorem dX7_judge_25 : decode cX7_judge 25 = .ok (.bipush (-11), 2) := by decide +kernel
theorem dX7_judge_27 : decode cX7_judge 27 = .ok (.ireturn, 1) := by decide +kernel
theorem dX7_judge_28 : decode cX7_judge 28 = .ok (.aload_n 2, 1) := by decide +kernel
theorem dX7_judge_29 : decode cX7_judge 29 = .ok (.iconst 0, 1) := by decide +kernel
theorem dX7_judge_30 : decode cX7_judge 30 = .ok (.bipush 99, 2) := by decide +kernel
theorem dX7_judge_32 : decode cX7_judge 32 = .ok (.invokevirtual 228, 3) := by decide +kernel
theorem dX7_judge_35 : decode cX7_judge 35 = .ok (.ifCond .ne 6, 3) := by decide +kernel
theorem dX7_judge_38 : decode cX7_judge 38 = .ok (.bipush (-2), 2) := by decide +kernel
theorem dX7_judge_40 : decode cX7_judge 40 = .ok (.ireturn, 1) := by decide +kernel
theorem dX7_judge_41 : decode cX7_judge 41 = .ok (.aload_n 0, 1) := by decide +kernel
theorem dX7_judge_42 : decode cX7_judge 42 = .ok (.getfield 72, 3) := by decide +kernel
theorem dX7_judge_45 : decode cX7_judge 45 = .ok (.aload_n 0, 1) := by decide +kernel
theorem dX7_judge_46 : decode cX7_judge 46 = .ok (.getfield 43, 3) := by decide +kernel
theorem dX7_judge_49 : decode cX7_judge 49 = .ok (.aload_n 0, 1) := by decide +kernel
theorem dX7_judge_50 : decode cX7_judge 50 = .ok (.getfield 43, 3) := by decide +kernel
theorem dX7_judge_53 : decode cX7_judge 53 = .ok (.getfield 146, 3) := by decide +kernel
theorem dX7_judge_56 : decode cX7_judge 56 = .ok (.aload_n 0, 1) := by decide +kernel
theorem dX7_judge_57 : decode cX7_judge 57 = .ok (.getfield 10, 3) := by decide +kernel
theorem dX7_judge_60 : decode cX7_judge 60 = .ok (.invokevirtual 231, 3) := by decide +kernel
theorem dX7_judge_63 : decode cX7_judge 63 = .ok (.aload_n 0, 1) := by decide +kernel
theorem dX7_judge_64 : decode cX7_judge 64 = .ok (.getfield 72, 3) := by decide +kernel
theorem dX7_judge_67 : decode cX7_judge 67 = .ok (.aload_n 2, 1) := by decide +kernel
theorem dX7_judge_68 : decode cX7_judge 68 = .ok (.invokevirtual 235, 3) := by decide +kernel
theorem dX7_judge_71 : decode cX7_judge 71 = .ok (.aload_n 0, 1) := by decide +kernel
theorem dX7_judge_72 : decode cX7_judge 72 = .ok (.getfield 72, 3) := by decide +kernel
theorem dX7_judge_75 : decode cX7_judge 75 = .ok (.aload_n 0, 1) := by decide +kernel
theorem dX7_judge_76 : decode cX7_judge 76 = .ok (.getfield 10, 3) := by decide +kernel
theorem dX7_judge_79 : decode cX7_judge 79 = .ok (.aload_n 0, 1) := by decide +kernel
theorem dX7_judge_80 : decode cX7_judge 80 = .ok (.getfield 26, 3) := by decide +kernel
theorem dX7_judge_83 : decode cX7_judge 83 = .ok (.aload_n 0, 1) := by decide +kernel
theorem dX7_judge_84 : decode cX7_judge 84 = .ok (.getfield 26, 3) := by decide +kernel
theorem dX7_judge_87 : decode cX7_judge 87 = .ok (.getfield 184, 3) := by decide +kernel
theorem dX7_judge_90 : decode cX7_judge 90 = .ok (.aload_n 0, 1) := by decide +kernel
theorem dX7_judge_91 : decode cX7_judge 91 = .ok (.getfield 56, 3) := by decide +kernel
theorem dX7_judge_94 : decode cX7_judge 94 = .ok (.aload_n 0, 1) := by decide +kernel
theorem dX7_judge_95 : decode cX7_judge 95 = .ok (.getfield 10, 3) := by decide +kernel
theorem dX7_judge_98 : decode cX7_judge 98 = .ok (.getfield 164, 3) := by decide +kernel
theorem dX7_judge_101 : decode cX7_judge 101 = .ok (.aaload, 1) := by decide +kernel
theorem dX7_judge_102 : decode cX7_judge 102 = .ok (.invokevirtual 239, 3) := by decide +kernel
theorem dX7_judge_105 : decode cX7_judge 105 = .ok (.aload_n 0, 1) := by decide +kernel
theorem dX7_judge_106 : decode cX7_judge 106 = .ok (.getfield 72, 3) := by decide +kernel
theorem dX7_judge_109 : decode cX7_judge 109 = .ok (.aload_n 0, 1) := by decide +kernel
theorem dX7_judge_110 : decode cX7_judge 110 = .ok (.getfield 10, 3) := by decide +kernel
theorem dX7_judge_113 : decode cX7_judge 113 = .ok (.iconst (-1), 1) := by decide +kernel
theorem dX7_judge_114 : decode cX7_judge 114 = .ok (.invokevirtual 174, 3) := by decide +kernel
theorem dX7_judge_117 : decode cX7_judge 117 = .ok (.ireturn, 1) := by decide +kernel
theorem dX7_image_0 : decode cX7_image 0 = .ok (.aload_n 0, 1) := by decide +kernel
theorem dX7_image_1 : decode cX7_image 1 = .ok (.getfield 16, 3) := by decide +kernel
theorem dX7_image_4 : decode cX7_image 4 = .ok (.aload_n 0, 1) := by decide +kernel
theorem dX7_image_5 : decode cX7_image 5 = .ok (.getfield 10, 3) := by decide +kernel
theorem dX7_image_8 : decode cX7_image 8 = .ok (.invokevirtual 243, 3) := by decide +kernel
theorem dX7_image_11 : decode cX7_image 11 = .ok (.aload_n 0, 1) := by decide +kernel
theorem dX7_image_12 : decode cX7_image 12 = .ok (.iconst 1, 1) := by decide +kernel
theorem dX7_image_13 : decode cX7_image 13 = .ok (.putfield 19, 3) := by decide +kernel
theorem dX7_image_16 : decode cX7_image 16 = .ok (.aload_n 0, 1) := by decide +kernel
theorem dX7_image_17 : decode cX7_image 17 = .ok (.getfield 10, 3) := by decide +kernel
theorem dX7_image_20 : decode cX7_image 20 = .ok (.getfield 216, 3) := by decide +kernel
theorem dX7_image_23 : decode cX7_image 23 = .ok (.ireturn, 1) := by decide +kernel
theorem dX7_back_0 : decode cX7_back 0 = .ok (.aload_n 0, 1) := by decide +kernel
theorem dX7_back_1 : decode cX7_back 1 = .ok (.getfield 19, 3) := by decide +kernel
theorem dX7_back_4 : decode cX7_back 4 = .ok (.ifCond .ne 6, 3) := by decide +kernel
theorem dX7_back_7 : decode cX7_back 7 = .ok (.bipush (-3), 2) := by decide +kernel
theorem dX7_back_9 : decode cX7_back 9 = .ok (.ireturn, 1) := by decide +kernel
theorem dX7_back_10 : decode cX7_back 10 = .ok (.aload_n 0, 1) := by decide +kernel
theorem dX7_back_11 : decode cX7_back 11 = .ok (.getfield 10, 3) := by decide +kernel
theorem dX7_back_14 : decode cX7_back 14 = .ok (.aload_n 0, 1) := by decide +kernel
theorem dX7_back_15 : decode cX7_back 15 = .ok (.getfield 16, 3) := by decide +kernel
theorem dX7_back_18 : decode cX7_back 18 = .ok (.invokevirtual 243, 3) := by decide +kernel
theorem dX7_back_21 : decode cX7_back 21 = .ok (.aload_n 0, 1) := by decide +kernel
theorem dX7_back_22 : decode cX7_back 22 = .ok (.getfield 10, 3) := by decide +kernel
theorem dX7_back_25 : decode cX7_back 25 = .ok (.getfield 216, 3) := by decide +kernel
theorem dX7_back_28 : decode cX7_back 28 = .ok (.ireturn, 1) := by decide +kernel
theorem dX7_count_0 : decode cX7_count 0 = .ok (.iload_n 1, 1) := by decide +kernel
theorem dX7_count_1 : decode cX7_count 1 = .ok (.tableswitch 105 0 7 #[47, 55, 63, 68, 76, 81, 89, 97], 47) := by decide +kernel
theorem dX7_count_48 : decode cX7_count 48 = .ok (.aload_n 0, 1) := by decide +kernel
theorem dX7_count_49 : decode cX7_count 49 = .ok (.getfield 10, 3) := by decide +kernel
theorem dX7_count_52 : decode cX7_count 52 = .ok (.getfield 216, 3) := by decide +kernel
theorem dX7_count_55 : decode cX7_count 55 = .ok (.ireturn, 1) := by decide +kernel
theorem dX7_count_56 : decode cX7_count 56 = .ok (.aload_n 0, 1) := by decide +kernel
theorem dX7_count_57 : decode cX7_count 57 = .ok (.getfield 26, 3) := by decide +kernel
theorem dX7_count_60 : decode cX7_count 60 = .ok (.getfield 184, 3) := by decide +kernel
theorem dX7_count_63 : decode cX7_count 63 = .ok (.ireturn, 1) := by decide +kernel
theorem dX7_count_64 : decode cX7_count 64 = .ok (.aload_n 0, 1) := by decide +kernel
theorem dX7_count_65 : decode cX7_count 65 = .ok (.getfield 36, 3) := by decide +kernel
theorem dX7_count_68 : decode cX7_count 68 = .ok (.ireturn, 1) := by decide +kernel
theorem dX7_count_69 : decode cX7_count 69 = .ok (.aload_n 0, 1) := by decide +kernel
theorem dX7_count_70 : decode cX7_count 70 = .ok (.getfield 10, 3) := by decide +kernel
theorem dX7_count_73 : decode cX7_count 73 = .ok (.getfield 122, 3) := by decide +kernel
theorem dX7_count_76 : decode cX7_count 76 = .ok (.ireturn, 1) := by decide +kernel
theorem dX7_count_77 : decode cX7_count 77 = .ok (.aload_n 0, 1) := by decide +kernel
theorem dX7_count_78 : decode cX7_count 78 = .ok (.getfield 60, 3) := by decide +kernel
theorem dX7_count_81 : decode cX7_count 81 = .ok (.ireturn, 1) := by decide +kernel
theorem dX7_count_82 : decode cX7_count 82 = .ok (.aload_n 0, 1) := by decide +kernel
theorem dX7_count_83 : decode cX7_count 83 = .ok (.getfield 50, 3) := by decide +kernel
theorem dX7_count_86 : decode cX7_count 86 = .ok (.getfield 158, 3) := by decide +kernel
theorem dX7_count_89 : decode cX7_count 89 = .ok (.ireturn, 1) := by decide +kernel
theorem dX7_count_90 : decode cX7_count 90 = .ok (.aload_n 0, 1) := by decide +kernel
theorem dX7_count_91 : decode cX7_count 91 = .ok (.getfield 10, 3) := by decide +kernel
theorem dX7_count_94 : decode cX7_count 94 = .ok (.getfield 164, 3) := by decide +kernel
theorem dX7_count_97 : decode cX7_count 97 = .ok (.ireturn, 1) := by decide +kernel
theorem dX7_count_98 : decode cX7_count 98 = .ok (.aload_n 0, 1) := by decide +kernel
theorem dX7_count_99 : decode cX7_count 99 = .ok (.getfield 10, 3) := by decide +kernel
theorem dX7_count_102 : decode cX7_count 102 = .ok (.invokevirtual 213, 3) := by decide +kernel
theorem dX7_count_105 : decode cX7_count 105 = .ok (.ireturn, 1) := by decide +kernel
theorem dX7_count_106 : decode cX7_count 106 = .ok (.bipush (-2), 2) := by decide +kernel
theorem dX7_count_108 : decode cX7_count 108 = .ok (.ireturn, 1) := by decide +kernel
theorem dX7_sheet_0 : decode cX7_sheet 0 = .ok (.iload_n 1, 1) := by decide +kernel
theorem dX7_sheet_1 : decode cX7_sheet 1 = .ok (.invokestatic 222, 3) := by decide +kernel
theorem dX7_sheet_4 : decode cX7_sheet 4 = .ok (.ifCond .eq 12, 3) := by decide +kernel
theorem dX7_sheet_7 : decode cX7_sheet 7 = .ok (.iload_n 2, 1) := by decide +kernel
theorem dX7_sheet_8 : decode cX7_sheet 8 = .ok (.iconst (-1), 1) := by decide +kernel
theorem dX7_sheet_9 : decode cX7_sheet 9 = .ok (.iconst 2, 1) := by decide +kernel
theorem dX7_sheet_10 : decode cX7_sheet 10 = .ok (.invokestatic 106, 3) := by decide +kernel
theorem dX7_sheet_13 : decode cX7_sheet 13 = .ok (.ifCond .ne 6, 3) := by decide +kernel
theorem dX7_sheet_16 : decode cX7_sheet 16 = .ok (.bipush (-2), 2) := by decide +kernel
theorem dX7_sheet_18 : decode cX7_sheet 18 = .ok (.ireturn, 1) := by decide +kernel
theorem dX7_sheet_19 : decode cX7_sheet 19 = .ok (.iload_n 2, 1) := by decide +kernel
theorem dX7_sheet_20 : decode cX7_sheet 20 = .ok (.iconst (-1), 1) := by decide +kernel
theorem dX7_sheet_21 : decode cX7_sheet 21 = .ok (.if_icmp .eq 12, 3) := by decide +kernel
theorem dX7_sheet_24 : decode cX7_sheet 24 = .ok (.iload_n 3, 1) := by decide +kernel
theorem dX7_sheet_25 : decode cX7_sheet 25 = .ok (.bipush 40, 2) := by decide +kernel
theorem dX7_sheet_27 : decode cX7_sheet 27 = .ok (.if_icmp .le 6, 3) := by decide +kernel
theorem dX7_sheet_30 : decode cX7_sheet 30 = .ok (.bipush (-2), 2) := by decide +kernel
theorem dX7_sheet_32 : decode cX7_sheet 32 = .ok (.ireturn, 1) := by decide +kernel
theorem dX7_sheet_33 : decode cX7_sheet 33 = .ok (.iload_n 2, 1) := by decide +kernel
theorem dX7_sheet_34 : decode cX7_sheet 34 = .ok (.iconst (-1), 1) := by decide +kernel
theorem dX7_sheet_35 : decode cX7_sheet 35 = .ok (.if_icmp .eq 10, 3) := by decide +kernel
theorem dX7_sheet_38 : decode cX7_sheet 38 = .ok (.iload_n 3, 1) := by decide +kernel
theorem dX7_sheet_39 : decode cX7_sheet 39 = .ok (.ifCond .ge 6, 3) := by decide +kernel
theorem dX7_sheet_42 : decode cX7_sheet 42 = .ok (.bipush (-14), 2) := by decide +kernel
theorem dX7_sheet_44 : decode cX7_sheet 44 = .ok (.ireturn, 1) := by decide +kernel
theorem dX7_sheet_45 : decode cX7_sheet 45 = .ok (.aload_n 0, 1) := by decide +kernel
theorem dX7_sheet_46 : decode cX7_sheet 46 = .ok (.getfield 65, 3) := by decide +kernel
theorem dX7_sheet_49 : decode cX7_sheet 49 = .ok (.iload_n 1, 1) := by decide +kernel
theorem dX7_sheet_50 : decode cX7_sheet 50 = .ok (.aaload, 1) := by decide +kernel
theorem dX7_sheet_51 : decode cX7_sheet 51 = .ok (.iload_n 2, 1) := by decide +kernel
theorem dX7_sheet_52 : decode cX7_sheet 52 = .ok (.iload_n 2, 1) := by decide +kernel
theorem dX7_sheet_53 : decode cX7_sheet 53 = .ok (.iconst (-1), 1) := by decide +kernel
theorem dX7_sheet_54 : decode cX7_sheet 54 = .ok (.if_icmp .ne 7, 3) := by decide +kernel
theorem dX7_sheet_57 : decode cX7_sheet 57 = .ok (.iconst 0, 1) := by decide +kernel
theorem dX7_sheet_58 : decode cX7_sheet 58 = .ok (.goto 4, 3) := by decide +kernel
theorem dX7_sheet_61 : decode cX7_sheet 61 = .ok (.iload_n 3, 1) := by decide +kernel
theorem dX7_sheet_62 : decode cX7_sheet 62 = .ok (.invokevirtual 247, 3) := by decide +kernel
theorem dX7_sheet_65 : decode cX7_sheet 65 = .ok (.iconst 1, 1) := by decide +kernel
theorem dX7_sheet_66 : decode cX7_sheet 66 = .ok (.ireturn, 1) := by decide +kernel
theorem dX7_cell_0 : decode cX7_cell 0 = .ok (.iload_n 1, 1) := by decide +kernel
theorem dX7_cell_1 : decode cX7_cell 1 = .ok (.invokestatic 222, 3) := by decide +kernel
theorem dX7_cell_4 : decode cX7_cell 4 = .ok (.ifCond .ne 6, 3) := by decide +kernel
theorem dX7_cell_7 : decode cX7_cell 7 = .ok (.bipush (-2), 2) := by decide +kernel
theorem dX7_cell_9 : decode cX7_cell 9 = .ok (.ireturn, 1) := by decide +kernel
theorem dX7_cell_10 : decode cX7_cell 10 = .ok (.aload_n 0, 1) := by decide +kernel
theorem dX7_cell_11 : decode cX7_cell 11 = .ok (.getfield 65, 3) := by decide +kernel
theorem dX7_cell_14 : decode cX7_cell 14 = .ok (.iload_n 1, 1) := by decide +kernel
theorem dX7_cell_15 : decode cX7_cell 15 = .ok (.aaload, 1) := by decide +kernel
theorem dX7_cell_16 : decode cX7_cell 16 = .ok (.astore 4, 2) := by decide +kernel
theorem dX7_cell_18 : decode cX7_cell 18 = .ok (.aload 4, 2) := by decide +kernel
theorem dX7_cell_20 : decode cX7_cell 20 = .ok (.getfield 225, 3) := by decide +kernel
theorem dX7_cell_23 : decode cX7_cell 23 = .ok (.iconst (-1), 1) := by decide +kernel
theorem dX7_cell_24 : decode cX7_cell 24 = .ok (.if_icmp .ne 6, 3) := by decide +kernel
theorem dX7_cell_27 : decode cX7_cell 27 = .ok (.bipush (-11), 2) := by decide +kernel
theorem dX7_cell_29 : decode cX7_cell 29 = .ok (.ireturn, 1) := by decide +kernel
theorem dX7_cell_30 : decode cX7_cell 30 = .ok (.aload 4, 2) := by decide +kernel
theorem dX7_cell_32 : decode cX7_cell 32 = .ok (.iload_n 2, 1) := by decide +kernel
theorem dX7_cell_33 : decode cX7_cell 33 = .ok (.invokevirtual 251, 3) := by decide +kernel
theorem dX7_cell_36 : decode cX7_cell 36 = .ok (.ifCond .ne 6, 3) := by decide +kernel
theorem dX7_cell_39 : decode cX7_cell 39 = .ok (.bipush (-12), 2) := by decide +kernel
theorem dX7_cell_41 : decode cX7_cell 41 = .ok (.ireturn, 1) := by decide +kernel
theorem dX7_cell_42 : decode cX7_cell 42 = .ok (.aload 4, 2) := by decide +kernel
theorem dX7_cell_44 : decode cX7_cell 44 = .ok (.iload_n 2, 1) := by decide +kernel
theorem dX7_cell_45 : decode cX7_cell 45 = .ok (.iload_n 3, 1) := by decide +kernel
theorem dX7_cell_46 : decode cX7_cell 46 = .ok (.invokevirtual 254, 3) := by decide +kernel
theorem dX7_cell_49 : decode cX7_cell 49 = .ok (.iconst 1, 1) := by decide +kernel
theorem dX7_cell_50 : decode cX7_cell 50 = .ok (.ireturn, 1) := by decide +kernel
theorem dX7_copy_0 : decode cX7_copy 0 = .ok (.iload_n 1, 1) := by decide +kernel
theorem dX7_copy_1 : decode cX7_copy 1 = .ok (.invokestatic 222, 3) := by decide +kernel
theorem dX7_copy_4 : decode cX7_copy 4 = .ok (.ifCond .eq 10, 3) := by decide +kernel
theorem dX7_copy_7 : decode cX7_copy 7 = .ok (.iload_n 3, 1) := by decide +kernel
theorem dX7_copy_8 : decode cX7_copy 8 = .ok (.invokestatic 222, 3) := by decide +kernel
theorem dX7_copy_11 : decode cX7_copy 11 = .ok (.ifCond .ne 6, 3) := by decide +kernel
theorem dX7_copy_14 : decode cX7_copy 14 = .ok (.bipush (-2), 2) := by decide +kernel
theorem dX7_copy_16 : decode cX7_copy 16 = .ok (.ireturn, 1) := by decide +kernel
theorem dX7_copy_17 : decode cX7_copy 17 = .ok (.aload_n 0, 1) := by decide +kernel
theorem dX7_copy_18 : decode cX7_copy 18 = .ok (.getfield 65, 3) := by decide +kernel
theorem dX7_copy_21 : decode cX7_copy 21 = .ok (.iload_n 1, 1) := by decide +kernel
theorem dX7_copy_22 : decode cX7_copy 22 = .ok (.aaload, 1) := by decide +kernel
theorem dX7_copy_23 : decode cX7_copy 23 = .ok (.astore 6, 2) := by decide +kernel
theorem dX7_copy_25 : decode cX7_copy 25 = .ok (.aload_n 0, 1) := by decide +kernel
theorem dX7_copy_26 : decode cX7_copy 26 = .ok (.getfield 65, 3) := by decide +kernel
theorem dX7_copy_29 : decode cX7_copy 29 = .ok (.iload_n 3, 1) := by decide +kernel
theorem dX7_copy_30 : decode cX7_copy 30 = .ok (.aaload, 1) := by decide +kernel
theorem dX7_copy_31 : decode cX7_copy 31 = .ok (.astore 7, 2) := by decide +kernel
theorem dX7_copy_33 : decode cX7_copy 33 = .ok (.aload 6, 2) := by decide +kernel
theorem dX7_copy_35 : decode cX7_copy 35 = .ok (.getfield 225, 3) := by decide +kernel
theorem dX7_copy_38 : decode cX7_copy 38 = .ok (.iconst (-1), 1) := by decide +kernel
theorem dX7_copy_39 : decode cX7_copy 39 = .ok (.if_icmp .eq 12, 3) := by decide +kernel
theorem dX7_copy_42 : decode cX7_copy 42 = .ok (.aload 7, 2) := by decide +kernel
theorem dX7_copy_44 : decode cX7_copy 44 = .ok (.getfield 225, 3) := by decide +kernel
theorem dX7_copy_47 : decode cX7_copy 47 = .ok (.iconst (-1), 1) := by decide +kernel
theorem dX7_copy_48 : decode cX7_copy 48 = .ok (.if_icmp .ne 6, 3) := by decide +kernel
theorem dX7_copy_51 : decode cX7_copy 51 = .ok (.bipush (-11), 2) := by decide +kernel
theorem dX7_copy_53 : decode cX7_copy 53 = .ok (.ireturn, 1) := by decide +kernel
theorem dX7_copy_54 : decode cX7_copy 54 = .ok (.aload 6, 2) := by decide +kernel
theorem dX7_copy_56 : decode cX7_copy 56 = .ok (.getfield 225, 3) := by decide +kernel
theorem dX7_copy_59 : decode cX7_copy 59 = .ok (.aload 7, 2) := by decide +kernel
theorem dX7_copy_61 : decode cX7_copy 61 = .ok (.getfield 225, 3) := by decide +kernel
theorem dX7_copy_64 : decode cX7_copy 64 = .ok (.if_icmp .eq 6, 3) := by decide +kernel
theorem dX7_copy_67 : decode cX7_copy 67 = .ok (.bipush (-13), 2) := by decide +kernel
theorem dX7_copy_69 : decode cX7_copy 69 = .ok (.ireturn, 1) := by decide +kernel
theorem dX7_copy_70 : decode cX7_copy 70 = .ok (.aload 6, 2) := by decide +kernel
theorem dX7_copy_72 : decode cX7_copy 72 = .ok (.iload_n 2, 1) := by decide +kernel
theorem dX7_copy_73 : decode cX7_copy 73 = .ok (.iload 5, 2) := by decide +kernel
theorem dX7_copy_75 : decode cX7_copy 75 = .ok (.invokevirtual 257, 3) := by decide +kernel
theorem dX7_copy_78 : decode cX7_copy 78 = .ok (.ifCond .eq 15, 3) := by decide +kernel
theorem dX7_copy_81 : decode cX7_copy 81 = .ok (.aload 7, 2) := by decide +kernel
theorem dX7_copy_83 : decode cX7_copy 83 = .ok (.iload 4, 2) := by decide +kernel
theorem dX7_copy_85 : decode cX7_copy 85 = .ok (.iload 5, 2) := by decide +kernel
theorem dX7_copy_87 : decode cX7_copy 87 = .ok (.invokevirtual 257, 3) := by decide +kernel
theorem dX7_copy_90 : decode cX7_copy 90 = .ok (.ifCond .ne 6, 3) := by decide +kernel
theorem dX7_copy_93 : decode cX7_copy 93 = .ok (.bipush (-12), 2) := by decide +kernel
theorem dX7_copy_95 : decode cX7_copy 95 = .ok (.ireturn, 1) := by decide +kernel
theorem dX7_copy_96 : decode cX7_copy 96 = .ok (.aload 6, 2) := by decide +kernel
theorem dX7_copy_98 : decode cX7_copy 98 = .ok (.getfield 260, 3) := by decide +kernel
theorem dX7_copy_101 : decode cX7_copy 101 = .ok (.iload_n 2, 1) := by decide +kernel
theorem dX7_copy_102 : decode cX7_copy 102 = .ok (.aload 7, 2) := by decide +kernel
theorem dX7_copy_104 : decode cX7_copy 104 = .ok (.getfield 260, 3) := by decide +kernel
theorem dX7_copy_107 : decode cX7_copy 107 = .ok (.iload 4, 2) := by decide +kernel
theorem dX7_copy_109 : decode cX7_copy 109 = .ok (.iload 5, 2) := by decide +kernel
theorem dX7_copy_111 : decode cX7_copy 111 = .ok (.invokestatic 263, 3) := by decide +kernel
theorem dX7_copy_114 : decode cX7_copy 114 = .ok (.iload 5, 2) := by decide +kernel
theorem dX7_copy_116 : decode cX7_copy 116 = .ok (.ireturn, 1) := by decide +kernel
theorem dX7_sorts_0 : decode cX7_sorts 0 = .ok (.iload_n 1, 1) := by decide +kernel
theorem dX7_sorts_1 : decode cX7_sorts 1 = .ok (.invokestatic 222, 3) := by decide +kernel
theorem dX7_sorts_4 : decode cX7_sorts 4 = .ok (.ifCond .eq 23, 3) := by decide +kernel
theorem dX7_sorts_7 : decode cX7_sorts 7 = .ok (.iload_n 2, 1) := by decide +kernel
theorem dX7_sorts_8 : decode cX7_sorts 8 = .ok (.iconst 0, 1) := by decide +kernel
theorem dX7_sorts_9 : decode cX7_sorts 9 = .ok (.iconst 2, 1) := by decide +kernel
theorem dX7_sorts_10 : decode cX7_sorts 10 = .ok (.invokestatic 106, 3) := by decide +kernel
theorem dX7_sorts_13 : decode cX7_sorts 13 = .ok (.ifCond .eq 14, 3) := by decide +kernel
theorem dX7_sorts_16 : decode cX7_sorts 16 = .ok (.iload 4, 2) := by decide +kernel
theorem dX7_sorts_18 : decode cX7_sorts 18 = .ok (.iconst 0, 1) := by decide +kernel
theorem dX7_sorts_19 : decode cX7_sorts 19 = .ok (.bipush 8, 2) := by decide +kernel
theorem dX7_sorts_21 : decode cX7_sorts 21 = .ok (.invokestatic 106, 3) := by decide +kernel
theorem dX7_sorts_24 : decode cX7_sorts 24 = .ok (.ifCond .ne 6, 3) := by decide +kernel
theorem dX7_sorts_27 : decode cX7_sorts 27 = .ok (.bipush (-2), 2) := by decide +kernel
theorem dX7_sorts_29 : decode cX7_sorts 29 = .ok (.ireturn, 1) := by decide +kernel
theorem dX7_sorts_30 : decode cX7_sorts 30 = .ok (.aload_n 0, 1) := by decide +kernel
theorem dX7_sorts_31 : decode cX7_sorts 31 = .ok (.getfield 65, 3) := by decide +kernel
theorem dX7_sorts_34 : decode cX7_sorts 34 = .ok (.iload_n 1, 1) := by decide +kernel
theorem dX7_sorts_35 : decode cX7_sorts 35 = .ok (.aaload, 1) := by decide +kernel
theorem dX7_sorts_36 : decode cX7_sorts 36 = .ok (.astore 5, 2) := by decide +kernel
theorem dX7_sorts_38 : decode cX7_sorts 38 = .ok (.aload 5, 2) := by decide +kernel
theorem dX7_sorts_40 : decode cX7_sorts 40 = .ok (.getfield 225, 3) := by decide +kernel
theorem dX7_sorts_43 : decode cX7_sorts 43 = .ok (.iconst (-1), 1) := by decide +kernel
theorem dX7_sorts_44 : decode cX7_sorts 44 = .ok (.if_icmp .ne 6, 3) := by decide +kernel
theorem dX7_sorts_47 : decode cX7_sorts 47 = .ok (.bipush (-11), 2) := by decide +kernel
theorem dX7_sorts_49 : decode cX7_sorts 49 = .ok (.ireturn, 1) := by decide +kernel
theorem dX7_sorts_50 : decode cX7_sorts 50 = .ok (.aload 5, 2) := by decide +kernel
theorem dX7_sorts_52 : decode cX7_sorts 52 = .ok (.getfield 225, 3) := by decide +kernel
theorem dX7_sorts_55 : decode cX7_sorts 55 = .ok (.iload_n 2, 1) := by decide +kernel
theorem dX7_sorts_56 : decode cX7_sorts 56 = .ok (.if_icmp .eq 6, 3) := by decide +kernel
theorem dX7_sorts_59 : decode cX7_sorts 59 = .ok (.bipush (-13), 2) := by decide +kernel
theorem dX7_sorts_61 : decode cX7_sorts 61 = .ok (.ireturn, 1) := by decide +kernel
theorem dX7_sorts_62 : decode cX7_sorts 62 = .ok (.iconst 0, 1) := by decide +kernel
theorem dX7_sorts_63 : decode cX7_sorts 63 = .ok (.istore 6, 2) := by decide +kernel
theorem dX7_sorts_65 : decode cX7_sorts 65 = .ok (.iconst 0, 1) := by decide +kernel
theorem dX7_sorts_66 : decode cX7_sorts 66 = .ok (.istore 7, 2) := by decide +kernel
theorem dX7_sorts_68 : decode cX7_sorts 68 = .ok (.iload 7, 2) := by decide +kernel
theorem dX7_sorts_70 : decode cX7_sorts 70 = .ok (.iload 4, 2) := by decide +kernel
theorem dX7_sorts_72 : decode cX7_sorts 72 = .ok (.if_icmp .ge 73, 3) := by decide +kernel
theorem dX7_sorts_75 : decode cX7_sorts 75 = .ok (.iload_n 3, 1) := by decide +kernel
theorem dX7_sorts_76 : decode cX7_sorts 76 = .ok (.iconst 2, 1) := by decide +kernel
theorem dX7_sorts_77 : decode cX7_sorts 77 = .ok (.iload 7, 2) := by decide +kernel
theorem dX7_sorts_79 : decode cX7_sorts 79 = .ok (.imul, 1) := by decide +kernel
theorem dX7_sorts_80 : decode cX7_sorts 80 = .ok (.iadd, 1) := by decide +kernel
theorem dX7_sorts_81 : decode cX7_sorts 81 = .ok (.istore 8, 2) := by decide +kernel
theorem dX7_sorts_83 : decode cX7_sorts 83 = .ok (.aload 5, 2) := by decide +kernel
theorem dX7_sorts_85 : decode cX7_sorts 85 = .ok (.iload 8, 2) := by decide +kernel
theorem dX7_sorts_87 : decode cX7_sorts 87 = .ok (.invokevirtual 251, 3) := by decide +kernel
theorem dX7_sorts_90 : decode cX7_sorts 90 = .ok (.ifCond .eq 15, 3) := by decide +kernel
theorem dX7_sorts_93 : decode cX7_sorts 93 = .ok (.aload 5, 2) := by decide +kernel
theorem dX7_sorts_95 : decode cX7_sorts 95 = .ok (.iload 8, 2) := by decide +kernel
theorem dX7_sorts_97 : decode cX7_sorts 97 = .ok (.iconst 1, 1) := by decide +kernel
theorem dX7_sorts_98 : decode cX7_sorts 98 = .ok (.iadd, 1) := by decide +kernel
theorem dX7_sorts_99 : decode cX7_sorts 99 = .ok (.invokevirtual 251, 3) := by decide +kernel
theorem dX7_sorts_102 : decode cX7_sorts 102 = .ok (.ifCond .ne 6, 3) := by decide +kernel
theorem dX7_sorts_105 : decode cX7_sorts 105 = .ok (.bipush (-12), 2) := by decide +kernel
theorem dX7_sorts_107 : decode cX7_sorts 107 = .ok (.ireturn, 1) := by decide +kernel
theorem dX7_sorts_108 : decode cX7_sorts 108 = .ok (.aload_n 0, 1) := by decide +kernel
theorem dX7_sorts_109 : decode cX7_sorts 109 = .ok (.getfield 10, 3) := by decide +kernel
theorem dX7_sorts_112 : decode cX7_sorts 112 = .ok (.aload 5, 2) := by decide +kernel
theorem dX7_sorts_114 : decode cX7_sorts 114 = .ok (.getfield 260, 3) := by decide +kernel
theorem dX7_sorts_117 : decode cX7_sorts 117 = .ok (.iload 8, 2) := by decide +kernel
theorem dX7_sorts_119 : decode cX7_sorts 119 = .ok (.iaload, 1) := by decide +kernel
theorem dX7_sorts_120 : decode cX7_sorts 120 = .ok (.aload 5, 2) := by decide +kernel
theorem dX7_sorts_122 : decode cX7_sorts 122 = .ok (.getfield 260, 3) := by decide +kernel
theorem dX7_sorts_125 : decode cX7_sorts 125 = .ok (.iload 8, 2) := by decide +kernel
theorem dX7_sorts_127 : decode cX7_sorts 127 = .ok (.iconst 1, 1) := by decide +kernel
theorem dX7_sorts_128 : decode cX7_sorts 128 = .ok (.iadd, 1) := by decide +kernel
theorem dX7_sorts_129 : decode cX7_sorts 129 = .ok (.iaload, 1) := by decide +kernel
theorem dX7_sorts_130 : decode cX7_sorts 130 = .ok (.invokevirtual 102, 3) := by decide +kernel
theorem dX7_sorts_133 : decode cX7_sorts 133 = .ok (.ifCond .lt 6, 3) := by decide +kernel
theorem dX7_sorts_136 : decode cX7_sorts 136 = .ok (.iinc 6 1, 3) := by decide +kernel
theorem dX7_sorts_139 : decode cX7_sorts 139 = .ok (.iinc 7 1, 3) := by decide +kernel
theorem dX7_sorts_142 : decode cX7_sorts 142 = .ok (.goto (-74), 3) := by decide +kernel
theorem dX7_sorts_145 : decode cX7_sorts 145 = .ok (.iload 6, 2) := by decide +kernel
theorem dX7_sorts_147 : decode cX7_sorts 147 = .ok (.ireturn, 1) := by decide +kernel
theorem dX7_taken_0 : decode cX7_taken 0 = .ok (.iload_n 2, 1) := by decide +kernel
theorem dX7_taken_1 : decode cX7_taken 1 = .ok (.iconst 0, 1) := by decide +kernel
theorem dX7_taken_2 : decode cX7_taken 2 = .ok (.iconst 5, 1) := by decide +kernel
theorem dX7_taken_3 : decode cX7_taken 3 = .ok (.invokestatic 106, 3) := by decide +kernel
theorem dX7_taken_6 : decode cX7_taken 6 = .ok (.ifCond .ne 6, 3) := by decide +kernel
theorem dX7_taken_9 : decode cX7_taken 9 = .ok (.bipush (-2), 2) := by decide +kernel
theorem dX7_taken_11 : decode cX7_taken 11 = .ok (.ireturn, 1) := by decide +kernel
theorem dX7_taken_12 : decode cX7_taken 12 = .ok (.aload_n 0, 1) := by decide +kernel
theorem dX7_taken_13 : decode cX7_taken 13 = .ok (.iload_n 1, 1) := by decide +kernel
theorem dX7_taken_14 : decode cX7_taken 14 = .ok (.invokevirtual 139, 3) := by decide +kernel
theorem dX7_taken_17 : decode cX7_taken 17 = .ok (.astore_n 3, 1) := by decide +kernel
theorem dX7_taken_18 : decode cX7_taken 18 = .ok (.aload_n 3, 1) := by decide +kernel
theorem dX7_taken_19 : decode cX7_taken 19 = .ok (.ifnonnull 6, 3) := by decide +kernel
theorem dX7_taken_22 : decode cX7_taken 22 = .ok (.bipush (-11), 2) := by decide +kernel
theorem dX7_taken_24 : decode cX7_taken 24 = .ok (.ireturn, 1) := by decide +kernel
theorem dX7_taken_25 : decode cX7_taken 25 = .ok (.aload_n 3, 1) := by decide +kernel
theorem dX7_taken_26 : decode cX7_taken 26 = .ok (.iload_n 2, 1) := by decide +kernel
theorem dX7_taken_27 : decode cX7_taken 27 = .ok (.invokevirtual 269, 3) := by decide +kernel
theorem dX7_taken_30 : decode cX7_taken 30 = .ok (.ifCond .eq 10, 3) := by decide +kernel
theorem dX7_taken_33 : decode cX7_taken 33 = .ok (.aload_n 3, 1) := by decide +kernel
theorem dX7_taken_34 : decode cX7_taken 34 = .ok (.getfield 149, 3) := by decide +kernel
theorem dX7_taken_37 : decode cX7_taken 37 = .ok (.goto 5, 3) := by decide +kernel
theorem dX7_taken_40 : decode cX7_taken 40 = .ok (.bipush (-13), 2) := by decide +kernel
theorem dX7_taken_42 : decode cX7_taken 42 = .ok (.ireturn, 1) := by decide +kernel
theorem dX7_between_0 : decode cX7_between 0 = .ok (.iload_n 1, 1) := by decide +kernel
theorem dX7_between_1 : decode cX7_between 1 = .ok (.iload_n 0, 1) := by decide +kernel
theorem dX7_between_2 : decode cX7_between 2 = .ok (.if_icmp .gt 12, 3) := by decide +kernel
theorem dX7_between_5 : decode cX7_between 5 = .ok (.iload_n 0, 1) := by decide +kernel
theorem dX7_between_6 : decode cX7_between 6 = .ok (.iload_n 2, 1) := by decide +kernel
theorem dX7_between_7 : decode cX7_between 7 = .ok (.if_icmp .gt 7, 3) := by decide +kernel
theorem dX7_between_10 : decode cX7_between 10 = .ok (.iconst 1, 1) := by decide +kernel
theorem dX7_between_11 : decode cX7_between 11 = .ok (.goto 4, 3) := by decide +kernel
theorem dX7_between_14 : decode cX7_between 14 = .ok (.iconst 0, 1) := by decide +kernel
theorem dX7_between_15 : decode cX7_between 15 = .ok (.ireturn, 1) := by decide +kernel
theorem dX7_bounded_0 : decode cX7_bounded 0 = .ok (.iload_n 1, 1) := by decide +kernel
theorem dX7_bounded_1 : decode cX7_bounded 1 = .ok (.iload_n 2, 1) := by decide +kernel
theorem dX7_bounded_2 : decode cX7_bounded 2 = .ok (.iload_n 0, 1) := by decide +kernel
theorem dX7_bounded_3 : decode cX7_bounded 3 = .ok (.invokestatic 272, 3) := by decide +kernel
theorem dX7_bounded_6 : decode cX7_bounded 6 = .ok (.invokestatic 277, 3) := by decide +kernel
theorem dX7_bounded_9 : decode cX7_bounded 9 = .ok (.ireturn, 1) := by decide +kernel
theorem dX7_isMinute_0 : decode cX7_isMinute 0 = .ok (.iload_n 0, 1) := by decide +kernel
theorem dX7_isMinute_1 : decode cX7_isMinute 1 = .ok (.iconst 0, 1) := by decide +kernel
theorem dX7_isMinute_2 : decode cX7_isMinute 2 = .ok (.bipush 119, 2) := by decide +kernel
theorem dX7_isMinute_4 : decode cX7_isMinute 4 = .ok (.invokestatic 106, 3) := by decide +kernel
theorem dX7_isMinute_7 : decode cX7_isMinute 7 = .ok (.ireturn, 1) := by decide +kernel
theorem dX7_isSheet_0 : decode cX7_isSheet 0 = .ok (.iload_n 0, 1) := by decide +kernel
theorem dX7_isSheet_1 : decode cX7_isSheet 1 = .ok (.iconst 0, 1) := by decide +kernel
theorem dX7_isSheet_2 : decode cX7_isSheet 2 = .ok (.iconst 3, 1) := by decide +kernel
theorem dX7_isSheet_3 : decode cX7_isSheet 3 = .ok (.invokestatic 106, 3) := by decide +kernel
theorem dX7_isSheet_6 : decode cX7_isSheet 6 = .ok (.ireturn, 1) := by decide +kernel
theorem dX7_fits_0 : decode cX7_fits 0 = .ok (.iload_n 0, 1) := by decide +kernel
theorem dX7_fits_1 : decode cX7_fits 1 = .ok (.iconst 0, 1) := by decide +kernel
theorem dX7_fits_2 : decode cX7_fits 2 = .ok (.iconst 5, 1) := by decide +kernel
theorem dX7_fits_3 : decode cX7_fits 3 = .ok (.invokestatic 106, 3) := by decide +kernel
theorem dX7_fits_6 : decode cX7_fits 6 = .ok (.ifCond .eq 24, 3) := by decide +kernel
theorem dX7_fits_9 : decode cX7_fits 9 = .ok (.iload_n 1, 1) := by decide +kernel
theorem dX7_fits_10 : decode cX7_fits 10 = .ok (.getstatic 280, 3) := by decide +kernel
theorem dX7_fits_13 : decode cX7_fits 13 = .ok (.iload_n 0, 1) := by decide +kernel
theorem dX7_fits_14 : decode cX7_fits 14 = .ok (.iaload, 1) := by decide +kernel
theorem dX7_fits_15 : decode cX7_fits 15 = .ok (.getstatic 283, 3) := by decide +kernel
theorem dX7_fits_18 : decode cX7_fits 18 = .ok (.iload_n 0, 1) := by decide +kernel
theorem dX7_fits_19 : decode cX7_fits 19 = .ok (.iaload, 1) := by decide +kernel
theorem dX7_fits_20 : decode cX7_fits 20 = .ok (.invokestatic 106, 3) := by decide +kernel
theorem dX7_fits_23 : decode cX7_fits 23 = .ok (.ifCond .eq 7, 3) := by decide +kernel
theorem dX7_fits_26 : decode cX7_fits 26 = .ok (.iconst 1, 1) := by decide +kernel
theorem dX7_fits_27 : decode cX7_fits 27 = .ok (.goto 4, 3) := by decide +kernel
theorem dX7_fits_30 : decode cX7_fits 30 = .ok (.iconst 0, 1) := by decide +kernel
theorem dX7_fits_31 : decode cX7_fits 31 = .ok (.ireturn, 1) := by decide +kernel
theorem dX7_isSortOrAll_0 : decode cX7_isSortOrAll 0 = .ok (.iload_n 1, 1) := by decide +kernel
theorem dX7_isSortOrAll_1 : decode cX7_isSortOrAll 1 = .ok (.iconst (-1), 1) := by decide +kernel
theorem dX7_isSortOrAll_2 : decode cX7_isSortOrAll 2 = .ok (.aload_n 0, 1) := by decide +kernel
theorem dX7_isSortOrAll_3 : decode cX7_isSortOrAll 3 = .ok (.getfield 10, 3) := by decide +kernel
theorem dX7_isSortOrAll_6 : decode cX7_isSortOrAll 6 = .ok (.getfield 216, 3) := by decide +kernel
theorem dX7_isSortOrAll_9 : decode cX7_isSortOrAll 9 = .ok (.iconst 1, 1) := by decide +kernel
theorem dX7_isSortOrAll_10 : decode cX7_isSortOrAll 10 = .ok (.isub, 1) := by decide +kernel
theorem dX7_isSortOrAll_11 : decode cX7_isSortOrAll 11 = .ok (.invokestatic 106, 3) := by decide +kernel
theorem dX7_isSortOrAll_14 : decode cX7_isSortOrAll 14 = .ok (.ireturn, 1) := by decide +kernel
theorem dX7_wayAt_0 : decode cX7_wayAt 0 = .ok (.iload_n 1, 1) := by decide +kernel
theorem dX7_wayAt_1 : decode cX7_wayAt 1 = .ok (.iconst 0, 1) := by decide +kernel
theorem dX7_wayAt_2 : decode cX7_wayAt 2 = .ok (.aload_n 0, 1) := by decide +kernel
theorem dX7_wayAt_3 : decode cX7_wayAt 3 = .ok (.getfield 36, 3) := by decide +kernel
theorem dX7_wayAt_6 : decode cX7_wayAt 6 = .ok (.iconst 1, 1) := by decide +kernel
theorem dX7_wayAt_7 : decode cX7_wayAt 7 = .ok (.isub, 1) := by decide +kernel
theorem dX7_wayAt_8 : decode cX7_wayAt 8 = .ok (.invokestatic 106, 3) := by decide +kernel
theorem dX7_wayAt_11 : decode cX7_wayAt 11 = .ok (.ifCond .eq 12, 3) := by decide +kernel
theorem dX7_wayAt_14 : decode cX7_wayAt 14 = .ok (.aload_n 0, 1) := by decide +kernel
theorem dX7_wayAt_15 : decode cX7_wayAt 15 = .ok (.getfield 32, 3) := by decide +kernel
theorem dX7_wayAt_18 : decode cX7_wayAt 18 = .ok (.iload_n 1, 1) := by decide +kernel
theorem dX7_wayAt_19 : decode cX7_wayAt 19 = .ok (.aaload, 1) := by decide +kernel
theorem dX7_wayAt_20 : decode cX7_wayAt 20 = .ok (.goto 4, 3) := by decide +kernel
theorem dX7_wayAt_23 : decode cX7_wayAt 23 = .ok (.aconst_null, 1) := by decide +kernel
theorem dX7_wayAt_24 : decode cX7_wayAt 24 = .ok (.areturn, 1) := by decide +kernel
theorem dX7_runDay_0 : decode cX7_runDay 0 = .ok (.aload_n 0, 1) := by decide +kernel
theorem dX7_runDay_1 : decode cX7_runDay 1 = .ok (.getfield 72, 3) := by decide +kernel
theorem dX7_runDay_4 : decode cX7_runDay 4 = .ok (.aload_n 1, 1) := by decide +kernel
theorem dX7_runDay_5 : decode cX7_runDay 5 = .ok (.aload_n 1, 1) := by decide +kernel
theorem dX7_runDay_6 : decode cX7_runDay 6 = .ok (.getfield 146, 3) := by decide +kernel
theorem dX7_runDay_9 : decode cX7_runDay 9 = .ok (.aload_n 0, 1) := by decide +kernel
theorem dX7_runDay_10 : decode cX7_runDay 10 = .ok (.getfield 10, 3) := by decide +kernel
theorem dX7_runDay_13 : decode cX7_runDay 13 = .ok (.invokevirtual 231, 3) := by decide +kernel
theorem dX7_runDay_16 : decode cX7_runDay 16 = .ok (.aload_n 0, 1) := by decide +kernel
theorem dX7_runDay_17 : decode cX7_runDay 17 = .ok (.getfield 72, 3) := by decide +kernel
theorem dX7_runDay_20 : decode cX7_runDay 20 = .ok (.aload_n 0, 1) := by decide +kernel
theorem dX7_runDay_21 : decode cX7_runDay 21 = .ok (.getfield 10, 3) := by decide +kernel
theorem dX7_runDay_24 : decode cX7_runDay 24 = .ok (.aload_n 0, 1) := by decide +kernel
theorem dX7_runDay_25 : decode cX7_runDay 25 = .ok (.getfield 26, 3) := by decide +kernel
theorem dX7_runDay_28 : decode cX7_runDay 28 = .ok (.aload_n 0, 1) := by decide +kernel
theorem dX7_runDay_29 : decode cX7_runDay 29 = .ok (.getfield 26, 3) := by decide +kernel
theorem dX7_runDay_32 : decode cX7_runDay 32 = .ok (.getfield 184, 3) := by decide +kernel
theorem dX7_runDay_35 : decode cX7_runDay 35 = .ok (.aload_n 0, 1) := by decide +kernel
theorem dX7_runDay_36 : decode cX7_runDay 36 = .ok (.getfield 56, 3) := by decide +kernel
theorem dX7_runDay_39 : decode cX7_runDay 39 = .ok (.aload_n 0, 1) := by decide +kernel
theorem dX7_runDay_40 : decode cX7_runDay 40 = .ok (.getfield 10, 3) := by decide +kernel
theorem dX7_runDay_43 : decode cX7_runDay 43 = .ok (.getfield 164, 3) := by decide +kernel
theorem dX7_runDay_46 : decode cX7_runDay 46 = .ok (.aaload, 1) := by decide +kernel
theorem dX7_runDay_47 : decode cX7_runDay 47 = .ok (.invokevirtual 239, 3) := by decide +kernel
theorem dX7_runDay_50 : decode cX7_runDay 50 = .ok (.return_, 1) := by decide +kernel
theorem dX7_leftBy_0 : decode cX7_leftBy 0 = .ok (.aload_n 0, 1) := by decide +kernel
theorem dX7_leftBy_1 : decode cX7_leftBy 1 = .ok (.getfield 72, 3) := by decide +kernel
theorem dX7_leftBy_4 : decode cX7_leftBy 4 = .ok (.aload_n 1, 1) := by decide +kernel
theorem dX7_leftBy_5 : decode cX7_leftBy 5 = .ok (.iload_n 2, 1) := by decide +kernel
theorem dX7_leftBy_6 : decode cX7_leftBy 6 = .ok (.aload_n 0, 1) := by decide +kernel
theorem dX7_leftBy_7 : decode cX7_leftBy 7 = .ok (.getfield 10, 3) := by decide +kernel
theorem dX7_leftBy_10 : decode cX7_leftBy 10 = .ok (.invokevirtual 231, 3) := by decide +kernel
theorem dX7_leftBy_13 : decode cX7_leftBy 13 = .ok (.aload_n 0, 1) := by decide +kernel
theorem dX7_leftBy_14 : decode cX7_leftBy 14 = .ok (.getfield 72, 3) := by decide +kernel
theorem dX7_leftBy_17 : decode cX7_leftBy 17 = .ok (.aload_n 0, 1) := by decide +kernel
theorem dX7_leftBy_18 : decode cX7_leftBy 18 = .ok (.getfield 10, 3) := by decide +kernel
theorem dX7_leftBy_21 : decode cX7_leftBy 21 = .ok (.aload_n 0, 1) := by decide +kernel
theorem dX7_leftBy_22 : decode cX7_leftBy 22 = .ok (.getfield 26, 3) := by decide +kernel
theorem dX7_leftBy_25 : decode cX7_leftBy 25 = .ok (.aload_n 0, 1) := by decide +kernel
theorem dX7_leftBy_26 : decode cX7_leftBy 26 = .ok (.getfield 26, 3) := by decide +kernel
theorem dX7_leftBy_29 : decode cX7_leftBy 29 = .ok (.getfield 184, 3) := by decide +kernel
theorem dX7_leftBy_32 : decode cX7_leftBy 32 = .ok (.iload_n 3, 1) := by decide +kernel
theorem dX7_leftBy_33 : decode cX7_leftBy 33 = .ok (.iadd, 1) := by decide +kernel
theorem dX7_leftBy_34 : decode cX7_leftBy 34 = .ok (.aload_n 0, 1) := by decide +kernel
theorem dX7_leftBy_35 : decode cX7_leftBy 35 = .ok (.getfield 56, 3) := by decide +kernel
theorem dX7_leftBy_38 : decode cX7_leftBy 38 = .ok (.aload_n 0, 1) := by decide +kernel
theorem dX7_leftBy_39 : decode cX7_leftBy 39 = .ok (.getfield 10, 3) := by decide +kernel
theorem dX7_leftBy_42 : decode cX7_leftBy 42 = .ok (.getfield 164, 3) := by decide +kernel
theorem dX7_leftBy_45 : decode cX7_leftBy 45 = .ok (.aaload, 1) := by decide +kernel
theorem dX7_leftBy_46 : decode cX7_leftBy 46 = .ok (.invokevirtual 239, 3) := by decide +kernel
theorem dX7_leftBy_49 : decode cX7_leftBy 49 = .ok (.aload_n 0, 1) := by decide +kernel
theorem dX7_leftBy_50 : decode cX7_leftBy 50 = .ok (.getfield 72, 3) := by decide +kernel
theorem dX7_leftBy_53 : decode cX7_leftBy 53 = .ok (.aload_n 0, 1) := by decide +kernel
theorem dX7_leftBy_54 : decode cX7_leftBy 54 = .ok (.getfield 10, 3) := by decide +kernel
theorem dX7_leftBy_57 : decode cX7_leftBy 57 = .ok (.iconst (-1), 1) := by decide +kernel
theorem dX7_leftBy_58 : decode cX7_leftBy 58 = .ok (.invokevirtual 174, 3) := by decide +kernel
theorem dX7_leftBy_61 : decode cX7_leftBy 61 = .ok (.ireturn, 1) := by decide +kernel
theorem dJ9_max_7cf53_0 : decode cJ9_max_7cf53 0 = .ok (.iload_n 0, 1) := by decide +kernel
theorem dJ9_max_7cf53_1 : decode cJ9_max_7cf53 1 = .ok (.iload_n 1, 1) := by decide +kernel
theorem dJ9_max_7cf53_2 : decode cJ9_max_7cf53 2 = .ok (.if_icmp .lt 7, 3) := by decide +kernel
theorem dJ9_max_7cf53_5 : decode cJ9_max_7cf53 5 = .ok (.iload_n 0, 1) := by decide +kernel
theorem dJ9_max_7cf53_6 : decode cJ9_max_7cf53 6 = .ok (.goto 4, 3) := by decide +kernel
theorem dJ9_max_7cf53_9 : decode cJ9_max_7cf53 9 = .ok (.iload_n 1, 1) := by decide +kernel
theorem dJ9_max_7cf53_10 : decode cJ9_max_7cf53 10 = .ok (.ireturn, 1) := by decide +kernel
theorem dJ9_min_7cf53_0 : decode cJ9_min_7cf53 0 = .ok (.iload_n 0, 1) := by decide +kernel
theorem dJ9_min_7cf53_1 : decode cJ9_min_7cf53 1 = .ok (.iload_n 1, 1) := by decide +kernel
theorem dJ9_min_7cf53_2 : decode cJ9_min_7cf53 2 = .ok (.if_icmp .gt 7, 3) := by decide +kernel
theorem dJ9_min_7cf53_5 : decode cJ9_min_7cf53 5 = .ok (.iload_n 0, 1) := by decide +kernel
theorem dJ9_min_7cf53_6 : decode cJ9_min_7cf53 6 = .ok (.goto 4, 3) := by decide +kernel
theorem dJ9_min_7cf53_9 : decode cJ9_min_7cf53 9 = .ok (.iload_n 1, 1) := by decide +kernel
theorem dJ9_min_7cf53_10 : decode cJ9_min_7cf53 10 = .ok (.ireturn, 1) := by decide +kernel
theorem dJ0_length_8abf5_0 : decode cJ0_length_8abf5 0 = .ok (.aload_n 0, 1) := by decide +kernel
theorem dJ0_length_8abf5_1 : decode cJ0_length_8abf5 1 = .ok (.getfield 9, 3) := by decide +kernel
theorem dJ0_length_8abf5_4 : decode cJ0_length_8abf5 4 = .ok (.arraylength, 1) := by decide +kernel
theorem dJ0_length_8abf5_5 : decode cJ0_length_8abf5 5 = .ok (.aload_n 0, 1) := by decide +kernel
theorem dJ0_length_8abf5_6 : decode cJ0_length_8abf5 6 = .ok (.invokevirtual 335, 3) := by decide +kernel
theorem dJ0_length_8abf5_9 : decode cJ0_length_8abf5 9 = .ok (.ishr, 1) := by decide +kernel
theorem dJ0_length_8abf5_10 : decode cJ0_length_8abf5 10 = .ok (.ireturn, 1) := by decide +kernel
theorem dJ0_charAt_5068e_0 : decode cJ0_charAt_5068e 0 = .ok (.aload_n 0, 1) := by decide +kernel
theorem dJ0_charAt_5068e_1 : decode cJ0_charAt_5068e 1 = .ok (.invokevirtual 492, 3) := by decide +kernel
theorem dJ0_charAt_5068e_4 : decode cJ0_charAt_5068e 4 = .ok (.ifCond .eq 12, 3) := by decide +kernel
theorem dJ0_charAt_5068e_7 : decode cJ0_charAt_5068e 7 = .ok (.aload_n 0, 1) := by decide +kernel
theorem dJ0_charAt_5068e_8 : decode cJ0_charAt_5068e 8 = .ok (.getfield 9, 3) := by decide +kernel
theorem dJ0_charAt_5068e_11 : decode cJ0_charAt_5068e 11 = .ok (.iload_n 1, 1) := by decide +kernel
theorem dJ0_charAt_5068e_12 : decode cJ0_charAt_5068e 12 = .ok (.invokestatic 495, 3) := by decide +kernel
theorem dJ0_charAt_5068e_15 : decode cJ0_charAt_5068e 15 = .ok (.ireturn, 1) := by decide +kernel
theorem dJ0_charAt_5068e_16 : decode cJ0_charAt_5068e 16 = .ok (.aload_n 0, 1) := by decide +kernel
theorem dJ0_charAt_5068e_17 : decode cJ0_charAt_5068e 17 = .ok (.getfield 9, 3) := by decide +kernel
theorem dJ0_charAt_5068e_20 : decode cJ0_charAt_5068e 20 = .ok (.iload_n 1, 1) := by decide +kernel
theorem dJ0_charAt_5068e_21 : decode cJ0_charAt_5068e 21 = .ok (.invokestatic 498, 3) := by decide +kernel
theorem dJ0_charAt_5068e_24 : decode cJ0_charAt_5068e 24 = .ok (.ireturn, 1) := by decide +kernel
theorem dJ0_coder_7d493_0 : decode cJ0_coder_7d493 0 = .ok (.getstatic 38, 3) := by decide +kernel
theorem dJ0_coder_7d493_3 : decode cJ0_coder_7d493 3 = .ok (.ifCond .eq 10, 3) := by decide +kernel
theorem dJ0_coder_7d493_6 : decode cJ0_coder_7d493 6 = .ok (.aload_n 0, 1) := by decide +kernel
theorem dJ0_coder_7d493_7 : decode cJ0_coder_7d493 7 = .ok (.getfield 15, 3) := by decide +kernel
theorem dJ0_coder_7d493_10 : decode cJ0_coder_7d493 10 = .ok (.goto 4, 3) := by decide +kernel
theorem dJ0_coder_7d493_13 : decode cJ0_coder_7d493 13 = .ok (.iconst 1, 1) := by decide +kernel
theorem dJ0_coder_7d493_14 : decode cJ0_coder_7d493 14 = .ok (.ireturn, 1) := by decide +kernel
theorem dJ0_isLatin1_aae02_0 : decode cJ0_isLatin1_aae02 0 = .ok (.getstatic 38, 3) := by decide +kernel
theorem dJ0_isLatin1_aae02_3 : decode cJ0_isLatin1_aae02 3 = .ok (.ifCond .eq 14, 3) := by decide +kernel
theorem dJ0_isLatin1_aae02_6 : decode cJ0_isLatin1_aae02 6 = .ok (.aload_n 0, 1) := by decide +kernel
theorem dJ0_isLatin1_aae02_7 : decode cJ0_isLatin1_aae02 7 = .ok (.getfield 15, 3) := by decide +kernel
theorem dJ0_isLatin1_aae02_10 : decode cJ0_isLatin1_aae02 10 = .ok (.ifCond .ne 7, 3) := by decide +kernel
theorem dJ0_isLatin1_aae02_13 : decode cJ0_isLatin1_aae02 13 = .ok (.iconst 1, 1) := by decide +kernel
theorem dJ0_isLatin1_aae02_14 : decode cJ0_isLatin1_aae02 14 = .ok (.goto 4, 3) := by decide +kernel
theorem dJ0_isLatin1_aae02_17 : decode cJ0_isLatin1_aae02 17 = .ok (.iconst 0, 1) := by decide +kernel
theorem dJ0_isLatin1_aae02_18 : decode cJ0_isLatin1_aae02 18 = .ok (.ireturn, 1) := by decide +kernel
theorem dJ0_checkIndex_df160_0 : decode cJ0_checkIndex_df160 0 = .ok (.iload_n 0, 1) := by decide +kernel
theorem dJ0_checkIndex_df160_1 : decode cJ0_checkIndex_df160 1 = .ok (.iload_n 1, 1) := by decide +kernel
theorem dJ0_checkIndex_df160_2 : decode cJ0_checkIndex_df160 2 = .ok (.getstatic 1053, 3) := by decide +kernel
theorem dJ0_checkIndex_df160_5 : decode cJ0_checkIndex_df160 5 = .ok (.invokestatic 1059, 3) := by decide +kernel
theorem dJ0_checkIndex_df160_8 : decode cJ0_checkIndex_df160 8 = .ok (.pop, 1) := by decide +kernel
theorem dJ0_checkIndex_df160_9 : decode cJ0_checkIndex_df160 9 = .ok (.return_, 1) := by decide +kernel
theorem dJ1_charAt_3b067_0 : decode cJ1_charAt_3b067 0 = .ok (.iload_n 1, 1) := by decide +kernel
theorem dJ1_charAt_3b067_1 : decode cJ1_charAt_3b067 1 = .ok (.aload_n 0, 1) := by decide +kernel
theorem dJ1_charAt_3b067_2 : decode cJ1_charAt_3b067 2 = .ok (.arraylength, 1) := by decide +kernel
theorem dJ1_charAt_3b067_3 : decode cJ1_charAt_3b067 3 = .ok (.invokestatic 9, 3) := by decide +kernel
theorem dJ1_charAt_3b067_6 : decode cJ1_charAt_3b067 6 = .ok (.aload_n 0, 1) := by decide +kernel
theorem dJ1_charAt_3b067_7 : decode cJ1_charAt_3b067 7 = .ok (.iload_n 1, 1) := by decide +kernel
theorem dJ1_charAt_3b067_8 : decode cJ1_charAt_3b067 8 = .ok (.baload, 1) := by decide +kernel
theorem dJ1_charAt_3b067_9 : decode cJ1_charAt_3b067 9 = .ok (.sipush 255, 3) := by decide +kernel
theorem dJ1_charAt_3b067_12 : decode cJ1_charAt_3b067 12 = .ok (.iand, 1) := by decide +kernel
theorem dJ1_charAt_3b067_13 : decode cJ1_charAt_3b067 13 = .ok (.i2c, 1) := by decide +kernel
theorem dJ1_charAt_3b067_14 : decode cJ1_charAt_3b067 14 = .ok (.ireturn, 1) := by decide +kernel
theorem dJ2_getChar_3b067_0 : decode cJ2_getChar_3b067 0 = .ok (.getstatic 44, 3) := by decide +kernel
theorem dJ2_getChar_3b067_3 : decode cJ2_getChar_3b067 3 = .ok (.ifCond .ne 25, 3) := by decide +kernel
theorem dJ2_getChar_3b067_6 : decode cJ2_getChar_3b067 6 = .ok (.iload_n 1, 1) := by decide +kernel
theorem dJ2_getChar_3b067_7 : decode cJ2_getChar_3b067 7 = .ok (.ifCond .lt 11, 3) := by decide +kernel
theorem dJ2_getChar_3b067_10 : decode cJ2_getChar_3b067 10 = .ok (.iload_n 1, 1) := by decide +kernel
theorem dJ2_getChar_3b067_11 : decode cJ2_getChar_3b067 11 = .ok (.aload_n 0, 1) := by decide +kernel
theorem dJ2_getChar_3b067_12 : decode cJ2_getChar_3b067 12 = .ok (.invokestatic 48, 3) := by decide +kernel
theorem dJ2_getChar_3b067_15 : decode cJ2_getChar_3b067 15 = .ok (.if_icmp .lt 13, 3) := by decide +kernel
theorem dJ2_getChar_3b067_18 : decode cJ2_getChar_3b067 18 = .ok (.new 52, 3) := by decide +kernel
theorem dJ2_getChar_3b067_21 : decode cJ2_getChar_3b067 21 = .ok (.dup, 1) := by decide +kernel
theorem dJ2_getChar_3b067_22 : decode cJ2_getChar_3b067 22 = .ok (.ldc 54, 2) := by decide +kernel
theorem dJ2_getChar_3b067_24 : decode cJ2_getChar_3b067 24 = .ok (.invokespecial 56, 3) := by decide +kernel
theorem dJ2_getChar_3b067_27 : decode cJ2_getChar_3b067 27 = .ok (.athrow, 1) := by decide +kernel
theorem dJ2_getChar_3b067_28 : decode cJ2_getChar_3b067 28 = .ok (.iload_n 1, 1) := by decide +kernel
theorem dJ2_getChar_3b067_29 : decode cJ2_getChar_3b067 29 = .ok (.iconst 1, 1) := by decide +kernel
theorem dJ2_getChar_3b067_30 : decode cJ2_getChar_3b067 30 = .ok (.ishl, 1) := by decide +kernel
theorem dJ2_getChar_3b067_31 : decode cJ2_getChar_3b067 31 = .ok (.istore_n 1, 1) := by decide +kernel
theorem dJ2_getChar_3b067_32 : decode cJ2_getChar_3b067 32 = .ok (.aload_n 0, 1) := by decide +kernel
theorem dJ2_getChar_3b067_33 : decode cJ2_getChar_3b067 33 = .ok (.iload_n 1, 1) := by decide +kernel
theorem dJ2_getChar_3b067_34 : decode cJ2_getChar_3b067 34 = .ok (.iinc 1 1, 3) := by decide +kernel
theorem dJ2_getChar_3b067_37 : decode cJ2_getChar_3b067 37 = .ok (.baload, 1) := by decide +kernel
theorem dJ2_getChar_3b067_38 : decode cJ2_getChar_3b067 38 = .ok (.sipush 255, 3) := by decide +kernel
theorem dJ2_getChar_3b067_41 : decode cJ2_getChar_3b067 41 = .ok (.iand, 1) := by decide +kernel
theorem dJ2_getChar_3b067_42 : decode cJ2_getChar_3b067 42 = .ok (.getstatic 59, 3) := by decide +kernel
theorem dJ2_getChar_3b067_45 : decode cJ2_getChar_3b067 45 = .ok (.ishl, 1) := by decide +kernel
theorem dJ2_getChar_3b067_46 : decode cJ2_getChar_3b067 46 = .ok (.aload_n 0, 1) := by decide +kernel
theorem dJ2_getChar_3b067_47 : decode cJ2_getChar_3b067 47 = .ok (.iload_n 1, 1) := by decide +kernel
theorem dJ2_getChar_3b067_48 : decode cJ2_getChar_3b067 48 = .ok (.baload, 1) := by decide +kernel
theorem dJ2_getChar_3b067_49 : decode cJ2_getChar_3b067 49 = .ok (.sipush 255, 3) := by decide +kernel
theorem dJ2_getChar_3b067_52 : decode cJ2_getChar_3b067 52 = .ok (.iand, 1) := by decide +kernel
theorem dJ2_getChar_3b067_53 : decode cJ2_getChar_3b067 53 = .ok (.getstatic 63, 3) := by decide +kernel
theorem dJ2_getChar_3b067_56 : decode cJ2_getChar_3b067 56 = .ok (.ishl, 1) := by decide +kernel
theorem dJ2_getChar_3b067_57 : decode cJ2_getChar_3b067 57 = .ok (.ior, 1) := by decide +kernel
theorem dJ2_getChar_3b067_58 : decode cJ2_getChar_3b067 58 = .ok (.i2c, 1) := by decide +kernel
theorem dJ2_getChar_3b067_59 : decode cJ2_getChar_3b067 59 = .ok (.ireturn, 1) := by decide +kernel
theorem dJ2_length_9d52b_0 : decode cJ2_length_9d52b 0 = .ok (.aload_n 0, 1) := by decide +kernel
theorem dJ2_length_9d52b_1 : decode cJ2_length_9d52b 1 = .ok (.arraylength, 1) := by decide +kernel
theorem dJ2_length_9d52b_2 : decode cJ2_length_9d52b 2 = .ok (.iconst 1, 1) := by decide +kernel
theorem dJ2_length_9d52b_3 : decode cJ2_length_9d52b 3 = .ok (.ishr, 1) := by decide +kernel
theorem dJ2_length_9d52b_4 : decode cJ2_length_9d52b 4 = .ok (.ireturn, 1) := by decide +kernel
theorem dJ2_charAt_3b067_0 : decode cJ2_charAt_3b067 0 = .ok (.iload_n 1, 1) := by decide +kernel
theorem dJ2_charAt_3b067_1 : decode cJ2_charAt_3b067 1 = .ok (.aload_n 0, 1) := by decide +kernel
theorem dJ2_charAt_3b067_2 : decode cJ2_charAt_3b067 2 = .ok (.invokestatic 67, 3) := by decide +kernel
theorem dJ2_charAt_3b067_5 : decode cJ2_charAt_3b067 5 = .ok (.aload_n 0, 1) := by decide +kernel
theorem dJ2_charAt_3b067_6 : decode cJ2_charAt_3b067 6 = .ok (.iload_n 1, 1) := by decide +kernel
theorem dJ2_charAt_3b067_7 : decode cJ2_charAt_3b067 7 = .ok (.invokestatic 71, 3) := by decide +kernel
theorem dJ2_charAt_3b067_10 : decode cJ2_charAt_3b067 10 = .ok (.ireturn, 1) := by decide +kernel
theorem dJ2_checkIndex_2214a_0 : decode cJ2_checkIndex_2214a 0 = .ok (.iload_n 0, 1) := by decide +kernel
theorem dJ2_checkIndex_2214a_1 : decode cJ2_checkIndex_2214a 1 = .ok (.aload_n 1, 1) := by decide +kernel
theorem dJ2_checkIndex_2214a_2 : decode cJ2_checkIndex_2214a 2 = .ok (.invokestatic 48, 3) := by decide +kernel
theorem dJ2_checkIndex_2214a_5 : decode cJ2_checkIndex_2214a 5 = .ok (.invokestatic 414, 3) := by decide +kernel
theorem dJ2_checkIndex_2214a_8 : decode cJ2_checkIndex_2214a 8 = .ok (.return_, 1) := by decide +kernel
theorem dJ7_fill_53178_0 : decode cJ7_fill_53178 0 = .ok (.iconst 0, 1) := by decide +kernel
theorem dJ7_fill_53178_1 : decode cJ7_fill_53178 1 = .ok (.istore_n 2, 1) := by decide +kernel
theorem dJ7_fill_53178_2 : decode cJ7_fill_53178 2 = .ok (.aload_n 0, 1) := by decide +kernel
theorem dJ7_fill_53178_3 : decode cJ7_fill_53178 3 = .ok (.arraylength, 1) := by decide +kernel
theorem dJ7_fill_53178_4 : decode cJ7_fill_53178 4 = .ok (.istore_n 3, 1) := by decide +kernel
theorem dJ7_fill_53178_5 : decode cJ7_fill_53178 5 = .ok (.iload_n 2, 1) := by decide +kernel
theorem dJ7_fill_53178_6 : decode cJ7_fill_53178 6 = .ok (.iload_n 3, 1) := by decide +kernel
theorem dJ7_fill_53178_7 : decode cJ7_fill_53178 7 = .ok (.if_icmp .ge 13, 3) := by decide +kernel
theorem dJ7_fill_53178_10 : decode cJ7_fill_53178 10 = .ok (.aload_n 0, 1) := by decide +kernel
theorem dJ7_fill_53178_11 : decode cJ7_fill_53178 11 = .ok (.iload_n 2, 1) := by decide +kernel
theorem dJ7_fill_53178_12 : decode cJ7_fill_53178 12 = .ok (.iload_n 1, 1) := by decide +kernel
theorem dJ7_fill_53178_13 : decode cJ7_fill_53178 13 = .ok (.iastore, 1) := by decide +kernel
theorem dJ7_fill_53178_14 : decode cJ7_fill_53178 14 = .ok (.iinc 2 1, 3) := by decide +kernel
theorem dJ7_fill_53178_17 : decode cJ7_fill_53178 17 = .ok (.goto (-12), 3) := by decide +kernel
theorem dJ7_fill_53178_20 : decode cJ7_fill_53178 20 = .ok (.return_, 1) := by decide +kernel
theorem dJ3_checkIndex_8e157_0 : decode cJ3_checkIndex_8e157 0 = .ok (.iload_n 0, 1) := by decide +kernel
theorem dJ3_checkIndex_8e157_1 : decode cJ3_checkIndex_8e157 1 = .ok (.ifCond .lt 8, 3) := by decide +kernel
theorem dJ3_checkIndex_8e157_4 : decode cJ3_checkIndex_8e157 4 = .ok (.iload_n 0, 1) := by decide +kernel
theorem dJ3_checkIndex_8e157_5 : decode cJ3_checkIndex_8e157 5 = .ok (.iload_n 1, 1) := by decide +kernel
theorem dJ3_checkIndex_8e157_6 : decode cJ3_checkIndex_8e157 6 = .ok (.if_icmp .lt 10, 3) := by decide +kernel
theorem dJ3_checkIndex_8e157_9 : decode cJ3_checkIndex_8e157 9 = .ok (.aload_n 2, 1) := by decide +kernel
theorem dJ3_checkIndex_8e157_10 : decode cJ3_checkIndex_8e157 10 = .ok (.iload_n 0, 1) := by decide +kernel
theorem dJ3_checkIndex_8e157_11 : decode cJ3_checkIndex_8e157 11 = .ok (.iload_n 1, 1) := by decide +kernel
theorem dJ3_checkIndex_8e157_12 : decode cJ3_checkIndex_8e157 12 = .ok (.invokestatic 95, 3) := by decide +kernel
theorem dJ3_checkIndex_8e157_15 : decode cJ3_checkIndex_8e157 15 = .ok (.athrow, 1) := by decide +kernel
theorem dJ3_checkIndex_8e157_16 : decode cJ3_checkIndex_8e157 16 = .ok (.iload_n 0, 1) := by decide +kernel
theorem dJ3_checkIndex_8e157_17 : decode cJ3_checkIndex_8e157 17 = .ok (.ireturn, 1) := by decide +kernel
theorem dL_law_0 : decode cL_law 0 = .ok (.new 7, 3) := by decide +kernel
theorem dL_law_3 : decode cL_law 3 = .ok (.dup, 1) := by decide +kernel
theorem dL_law_4 : decode cL_law 4 = .ok (.invokespecial 9, 3) := by decide +kernel
theorem dL_law_7 : decode cL_law 7 = .ok (.astore_n 1, 1) := by decide +kernel
theorem dL_law_8 : decode cL_law 8 = .ok (.new 10, 3) := by decide +kernel
theorem dL_law_11 : decode cL_law 11 = .ok (.dup, 1) := by decide +kernel
theorem dL_law_12 : decode cL_law 12 = .ok (.invokespecial 12, 3) := by decide +kernel
theorem dL_law_15 : decode cL_law 15 = .ok (.astore_n 2, 1) := by decide +kernel
theorem dL_law_16 : decode cL_law 16 = .ok (.iconst 0, 1) := by decide +kernel
theorem dL_law_17 : decode cL_law 17 = .ok (.istore_n 3, 1) := by decide +kernel
theorem dL_law_18 : decode cL_law 18 = .ok (.iload_n 3, 1) := by decide +kernel
theorem dL_law_19 : decode cL_law 19 = .ok (.aload_n 0, 1) := by decide +kernel
theorem dL_law_20 : decode cL_law 20 = .ok (.arraylength, 1) := by decide +kernel
theorem dL_law_21 : decode cL_law 21 = .ok (.bipush 6, 2) := by decide +kernel
theorem dL_law_23 : decode cL_law 23 = .ok (.isub, 1) := by decide +kernel
theorem dL_law_24 : decode cL_law 24 = .ok (.if_icmp .gt 1115, 3) := by decide +kernel
theorem dL_law_27 : decode cL_law 27 = .ok (.aload_n 0, 1) := by decide +kernel
theorem dL_law_28 : decode cL_law 28 = .ok (.iload_n 3, 1) := by decide +kernel
theorem dL_law_29 : decode cL_law 29 = .ok (.iaload, 1) := by decide +kernel
theorem dL_law_30 : decode cL_law 30 = .ok (.bipush 31, 2) := by decide +kernel
theorem dL_law_32 : decode cL_law 32 = .ok (.iand, 1) := by decide +kernel
theorem dL_law_33 : decode cL_law 33 = .ok (.tableswitch 1100 0 28 #[131, 164, 207, 250, 293, 326, 369, 432, 445, 468, 501, 525, 558, 591, 634, 667, 700, 733, 757, 770, 793, 816, 829, 842, 865, 908, 951, 1014, 1067], 131) := by decide +kernel
theorem dL_law_164 : decode cL_law 164 = .ok (.aload_n 1, 1) := by decide +kernel
theorem dL_law_165 : decode cL_law 165 = .ok (.aload_n 0, 1) := by decide +kernel
theorem dL_law_166 : decode cL_law 166 = .ok (.iload_n 3, 1) := by decide +kernel
theorem dL_law_167 : decode cL_law 167 = .ok (.iconst 1, 1) := by decide +kernel
theorem dL_law_168 : decode cL_law 168 = .ok (.iadd, 1) := by decide +kernel
theorem dL_law_169 : decode cL_law 169 = .ok (.iaload, 1) := by decide +kernel
theorem dL_law_170 : decode cL_law 170 = .ok (.aload_n 0, 1) := by decide +kernel
theorem dL_law_171 : decode cL_law 171 = .ok (.iload_n 3, 1) := by decide +kernel
theorem dL_law_172 : decode cL_law 172 = .ok (.iconst 2, 1) := by decide +kernel
theorem dL_law_173 : decode cL_law 173 = .ok (.iadd, 1) := by decide +kernel
theorem dL_law_174 : decode cL_law 174 = .ok (.iaload, 1) := by decide +kernel
theorem dL_law_175 : decode cL_law 175 = .ok (.invokevirtual 13, 3) := by decide +kernel
theorem dL_law_178 : decode cL_law 178 = .ok (.aload_n 2, 1) := by decide +kernel
theorem dL_law_179 : decode cL_law 179 = .ok (.aload_n 0, 1) := by decide +kernel
theorem dL_law_180 : decode cL_law 180 = .ok (.iload_n 3, 1) := by decide +kernel
theorem dL_law_181 : decode cL_law 181 = .ok (.iconst 1, 1) := by decide +kernel
theorem dL_law_182 : decode cL_law 182 = .ok (.iadd, 1) := by decide +kernel
theorem dL_law_183 : decode cL_law 183 = .ok (.iaload, 1) := by decide +kernel
theorem dL_law_184 : decode cL_law 184 = .ok (.aload_n 0, 1) := by decide +kernel
theorem dL_law_185 : decode cL_law 185 = .ok (.iload_n 3, 1) := by decide +kernel
theorem dL_law_186 : decode cL_law 186 = .ok (.iconst 2, 1) := by decide +kernel
theorem dL_law_187 : decode cL_law 187 = .ok (.iadd, 1) := by decide +kernel
theorem dL_law_188 : decode cL_law 188 = .ok (.iaload, 1) := by decide +kernel
theorem dL_law_189 : decode cL_law 189 = .ok (.invokevirtual 17, 3) := by decide +kernel
theorem dL_law_192 : decode cL_law 192 = .ok (.if_icmp .eq 941, 3) := by decide +kernel
theorem dL_law_195 : decode cL_law 195 = .ok (.iconst 0, 1) := by decide +kernel
theorem dL_law_196 : decode cL_law 196 = .ok (.ireturn, 1) := by decide +kernel
theorem dL_law_197 : decode cL_law 197 = .ok (.aload_n 1, 1) := by decide +kernel
theorem dL_law_198 : decode cL_law 198 = .ok (.aload_n 0, 1) := by decide +kernel
theorem dL_law_199 : decode cL_law 199 = .ok (.iload_n 3, 1) := by decide +kernel
theorem dL_law_200 : decode cL_law 200 = .ok (.iconst 1, 1) := by decide +kernel
theorem dL_law_201 : decode cL_law 201 = .ok (.iadd, 1) := by decide +kernel
theorem dL_law_202 : decode cL_law 202 = .ok (.iaload, 1) := by decide +kernel
theorem dL_law_203 : decode cL_law 203 = .ok (.aload_n 0, 1) := by decide +kernel
theorem dL_law_204 : decode cL_law 204 = .ok (.iload_n 3, 1) := by decide +kernel
theorem dL_law_205 : decode cL_law 205 = .ok (.iconst 2, 1) := by decide +kernel
theorem dL_law_206 : decode cL_law 206 = .ok (.iadd, 1) := by decide +kernel
theorem dL_law_207 : decode cL_law 207 = .ok (.iaload, 1) := by decide +kernel
theorem dL_law_208 : decode cL_law 208 = .ok (.aload_n 0, 1) := by decide +kernel
theorem dL_law_209 : decode cL_law 209 = .ok (.iload_n 3, 1) := by decide +kernel
theorem dL_law_210 : decode cL_law 210 = .ok (.iconst 3, 1) := by decide +kernel
theorem dL_law_211 : decode cL_law 211 = .ok (.iadd, 1) := by decide +kernel
theorem dL_law_212 : decode cL_law 212 = .ok (.iaload, 1) := by decide +kernel
theorem dL_law_213 : decode cL_law 213 = .ok (.invokevirtual 18, 3) := by decide +kernel
theorem dL_law_216 : decode cL_law 216 = .ok (.aload_n 2, 1) := by decide +kernel
theorem dL_law_217 : decode cL_law 217 = .ok (.aload_n 0, 1) := by decide +kernel
theorem dL_law_218 : decode cL_law 218 = .ok (.iload_n 3, 1) := by decide +kernel
theorem dL_law_219 : decode cL_law 219 = .ok (.iconst 1, 1) := by decide +kernel
theorem dL_law_220 : decode cL_law 220 = .ok (.iadd, 1) := by decide +kernel
theorem dL_law_221 : decode cL_law 221 = .ok (.iaload, 1) := by decide +kernel
theorem dL_law_222 : decode cL_law 222 = .ok (.aload_n 0, 1) := by decide +kernel
theorem dL_law_223 : decode cL_law 223 = .ok (.iload_n 3, 1) := by decide +kernel
theorem dL_law_224 : decode cL_law 224 = .ok (.iconst 2, 1) := by decide +kernel
theorem dL_law_225 : decode cL_law 225 = .ok (.iadd, 1) := by decide +kernel
theorem dL_law_226 : decode cL_law 226 = .ok (.iaload, 1) := by decide +kernel
theorem dL_law_227 : decode cL_law 227 = .ok (.aload_n 0, 1) := by decide +kernel
theorem dL_law_228 : decode cL_law 228 = .ok (.iload_n 3, 1) := by decide +kernel
theorem dL_law_229 : decode cL_law 229 = .ok (.iconst 3, 1) := by decide +kernel
theorem dL_law_230 : decode cL_law 230 = .ok (.iadd, 1) := by decide +kernel
theorem dL_law_231 : decode cL_law 231 = .ok (.iaload, 1) := by decide +kernel
theorem dL_law_232 : decode cL_law 232 = .ok (.invokevirtual 22, 3) := by decide +kernel
theorem dL_law_235 : decode cL_law 235 = .ok (.if_icmp .eq 898, 3) := by decide +kernel
theorem dL_law_238 : decode cL_law 238 = .ok (.iconst 0, 1) := by decide +kernel
theorem dL_law_239 : decode cL_law 239 = .ok (.ireturn, 1) := by decide +kernel
theorem dL_law_240 : decode cL_law 240 = .ok (.aload_n 1, 1) := by decide +kernel
theorem dL_law_241 : decode cL_law 241 = .ok (.aload_n 0, 1) := by decide +kernel
theorem dL_law_242 : decode cL_law 242 = .ok (.iload_n 3, 1) := by decide +kernel
theorem dL_law_243 : decode cL_law 243 = .ok (.iconst 1, 1) := by decide +kernel
theorem dL_law_244 : decode cL_law 244 = .ok (.iadd, 1) := by decide +kernel
theorem dL_law_245 : decode cL_law 245 = .ok (.iaload, 1) := by decide +kernel
theorem dL_law_246 : decode cL_law 246 = .ok (.aload_n 0, 1) := by decide +kernel
theorem dL_law_247 : decode cL_law 247 = .ok (.iload_n 3, 1) := by decide +kernel
theorem dL_law_248 : decode cL_law 248 = .ok (.iconst 2, 1) := by decide +kernel
theorem dL_law_249 : decode cL_law 249 = .ok (.iadd, 1) := by decide +kernel
theorem dL_law_250 : decode cL_law 250 = .ok (.iaload, 1) := by decide +kernel
theorem dL_law_251 : decode cL_law 251 = .ok (.aload_n 0, 1) := by decide +kernel
theorem dL_law_252 : decode cL_law 252 = .ok (.iload_n 3, 1) := by decide +kernel
theorem dL_law_253 : decode cL_law 253 = .ok (.iconst 3, 1) := by decide +kernel
theorem dL_law_254 : decode cL_law 254 = .ok (.iadd, 1) := by decide +kernel
theorem dL_law_255 : decode cL_law 255 = .ok (.iaload, 1) := by decide +kernel
theorem dL_law_256 : decode cL_law 256 = .ok (.invokevirtual 23, 3) := by decide +kernel
theorem dL_law_259 : decode cL_law 259 = .ok (.aload_n 2, 1) := by decide +kernel
theorem dL_law_260 : decode cL_law 260 = .ok (.aload_n 0, 1) := by decide +kernel
theorem dL_law_261 : decode cL_law 261 = .ok (.iload_n 3, 1) := by decide +kernel
theorem dL_law_262 : decode cL_law 262 = .ok (.iconst 1, 1) := by decide +kernel
theorem dL_law_263 : decode cL_law 263 = .ok (.iadd, 1) := by decide +kernel
theorem dL_law_264 : decode cL_law 264 = .ok (.iaload, 1) := by decide +kernel
theorem dL_law_265 : decode cL_law 265 = .ok (.aload_n 0, 1) := by decide +kernel
theorem dL_law_266 : decode cL_law 266 = .ok (.iload_n 3, 1) := by decide +kernel
theorem dL_law_267 : decode cL_law 267 = .ok (.iconst 2, 1) := by decide +kernel
theorem dL_law_268 : decode cL_law 268 = .ok (.iadd, 1) := by decide +kernel
theorem dL_law_269 : decode cL_law 269 = .ok (.iaload, 1) := by decide +kernel
theorem dL_law_270 : decode cL_law 270 = .ok (.aload_n 0, 1) := by decide +kernel
theorem dL_law_271 : decode cL_law 271 = .ok (.iload_n 3, 1) := by decide +kernel
theorem dL_law_272 : decode cL_law 272 = .ok (.iconst 3, 1) := by decide +kernel
theorem dL_law_273 : decode cL_law 273 = .ok (.iadd, 1) := by decide +kernel
theorem dL_law_274 : decode cL_law 274 = .ok (.iaload, 1) := by decide +kernel
theorem dL_law_275 : decode cL_law 275 = .ok (.invokevirtual 26, 3) := by decide +kernel
theorem dL_law_278 : decode cL_law 278 = .ok (.if_icmp .eq 855, 3) := by decide +kernel
theorem dL_law_281 : decode cL_law 281 = .ok (.iconst 0, 1) := by decide +kernel
theorem dL_law_282 : decode cL_law 282 = .ok (.ireturn, 1) := by decide +kernel
theorem dL_law_283 : decode cL_law 283 = .ok (.aload_n 1, 1) := by decide +kernel
theorem dL_law_284 : decode cL_law 284 = .ok (.aload_n 0, 1) := by decide +kernel
theorem dL_law_285 : decode cL_law 285 = .ok (.iload_n 3, 1) := by decide +kernel
theorem dL_law_286 : decode cL_law 286 = .ok (.iconst 1, 1) := by decide +kernel
theorem dL_law_287 : decode cL_law 287 = .ok (.iadd, 1) := by decide +kernel
theorem dL_law_288 : decode cL_law 288 = .ok (.iaload, 1) := by decide +kernel
theorem dL_law_289 : decode cL_law 289 = .ok (.aload_n 0, 1) := by decide +kernel
theorem dL_law_290 : decode cL_law 290 = .ok (.iload_n 3, 1) := by decide +kernel
theorem dL_law_291 : decode cL_law 291 = .ok (.iconst 2, 1) := by decide +kernel
theorem dL_law_292 : decode cL_law 292 = .ok (.iadd, 1) := by decide +kernel
theorem dL_law_293 : decode cL_law 293 = .ok (.iaload, 1) := by decide +kernel
theorem dL_law_294 : decode cL_law 294 = .ok (.aload_n 0, 1) := by decide +kernel
theorem dL_law_295 : decode cL_law 295 = .ok (.iload_n 3, 1) := by decide +kernel
theorem dL_law_296 : decode cL_law 296 = .ok (.iconst 3, 1) := by decide +kernel
theorem dL_law_297 : decode cL_law 297 = .ok (.iadd, 1) := by decide +kernel
theorem dL_law_298 : decode cL_law 298 = .ok (.iaload, 1) := by decide +kernel
theorem dL_law_299 : decode cL_law 299 = .ok (.invokevirtual 27, 3) := by decide +kernel
theorem dL_law_302 : decode cL_law 302 = .ok (.aload_n 2, 1) := by decide +kernel
theorem dL_law_303 : decode cL_law 303 = .ok (.aload_n 0, 1) := by decide +kernel
theorem dL_law_304 : decode cL_law 304 = .ok (.iload_n 3, 1) := by decide +kernel
theorem dL_law_305 : decode cL_law 305 = .ok (.iconst 1, 1) := by decide +kernel
theorem dL_law_306 : decode cL_law 306 = .ok (.iadd, 1) := by decide +kernel
theorem dL_law_307 : decode cL_law 307 = .ok (.iaload, 1) := by decide +kernel
theorem dL_law_308 : decode cL_law 308 = .ok (.aload_n 0, 1) := by decide +kernel
theorem dL_law_309 : decode cL_law 309 = .ok (.iload_n 3, 1) := by decide +kernel
theorem dL_law_310 : decode cL_law 310 = .ok (.iconst 2, 1) := by decide +kernel
theorem dL_law_311 : decode cL_law 311 = .ok (.iadd, 1) := by decide +kernel
theorem dL_law_312 : decode cL_law 312 = .ok (.iaload, 1) := by decide +kernel
theorem dL_law_313 : decode cL_law 313 = .ok (.aload_n 0, 1) := by decide +kernel
theorem dL_law_314 : decode cL_law 314 = .ok (.iload_n 3, 1) := by decide +kernel
theorem dL_law_315 : decode cL_law 315 = .ok (.iconst 3, 1) := by decide +kernel
theorem dL_law_316 : decode cL_law 316 = .ok (.iadd, 1) := by decide +kernel
theorem dL_law_317 : decode cL_law 317 = .ok (.iaload, 1) := by decide +kernel
theorem dL_law_318 : decode cL_law 318 = .ok (.invokevirtual 30, 3) := by decide +kernel
theorem dL_law_321 : decode cL_law 321 = .ok (.if_icmp .eq 812, 3) := by decide +kernel
theorem dL_law_324 : decode cL_law 324 = .ok (.iconst 0, 1) := by decide +kernel
theorem dL_law_325 : decode cL_law 325 = .ok (.ireturn, 1) := by decide +kernel
theorem dL_law_326 : decode cL_law 326 = .ok (.aload_n 1, 1) := by decide +kernel
theorem dL_law_327 : decode cL_law 327 = .ok (.aload_n 0, 1) := by decide +kernel
theorem dL_law_328 : decode cL_law 328 = .ok (.iload_n 3, 1) := by decide +kernel
theorem dL_law_329 : decode cL_law 329 = .ok (.iconst 1, 1) := by decide +kernel
theorem dL_law_330 : decode cL_law 330 = .ok (.iadd, 1) := by decide +kernel
theorem dL_law_331 : decode cL_law 331 = .ok (.iaload, 1) := by decide +kernel
theorem dL_law_332 : decode cL_law 332 = .ok (.aload_n 0, 1) := by decide +kernel
theorem dL_law_333 : decode cL_law 333 = .ok (.iload_n 3, 1) := by decide +kernel
theorem dL_law_334 : decode cL_law 334 = .ok (.iconst 2, 1) := by decide +kernel
theorem dL_law_335 : decode cL_law 335 = .ok (.iadd, 1) := by decide +kernel
theorem dL_law_336 : decode cL_law 336 = .ok (.iaload, 1) := by decide +kernel
theorem dL_law_337 : decode cL_law 337 = .ok (.invokevirtual 31, 3) := by decide +kernel
theorem dL_law_340 : decode cL_law 340 = .ok (.aload_n 2, 1) := by decide +kernel
theorem dL_law_341 : decode cL_law 341 = .ok (.aload_n 0, 1) := by decide +kernel
theorem dL_law_342 : decode cL_law 342 = .ok (.iload_n 3, 1) := by decide +kernel
theorem dL_law_343 : decode cL_law 343 = .ok (.iconst 1, 1) := by decide +kernel
theorem dL_law_344 : decode cL_law 344 = .ok (.iadd, 1) := by decide +kernel
theorem dL_law_345 : decode cL_law 345 = .ok (.iaload, 1) := by decide +kernel
theorem dL_law_346 : decode cL_law 346 = .ok (.aload_n 0, 1) := by decide +kernel
theorem dL_law_347 : decode cL_law 347 = .ok (.iload_n 3, 1) := by decide +kernel
theorem dL_law_348 : decode cL_law 348 = .ok (.iconst 2, 1) := by decide +kernel
theorem dL_law_349 : decode cL_law 349 = .ok (.iadd, 1) := by decide +kernel
theorem dL_law_350 : decode cL_law 350 = .ok (.iaload, 1) := by decide +kernel
theorem dL_law_351 : decode cL_law 351 = .ok (.invokevirtual 34, 3) := by decide +kernel
theorem dL_law_354 : decode cL_law 354 = .ok (.if_icmp .eq 779, 3) := by decide +kernel
theorem dL_law_357 : decode cL_law 357 = .ok (.iconst 0, 1) := by decide +kernel
theorem dL_law_358 : decode cL_law 358 = .ok (.ireturn, 1) := by decide +kernel
theorem dL_law_359 : decode cL_law 359 = .ok (.aload_n 1, 1) := by decide +kernel
theorem dL_law_360 : decode cL_law 360 = .ok (.aload_n 0, 1) := by decide +kernel
theorem dL_law_361 : decode cL_law 361 = .ok (.iload_n 3, 1) := by decide +kernel
theorem dL_law_362 : decode cL_law 362 = .ok (.iconst 1, 1) := by decide +kernel
theorem dL_law_363 : decode cL_law 363 = .ok (.iadd, 1) := by decide +kernel
theorem dL_law_364 : decode cL_law 364 = .ok (.iaload, 1) := by decide +kernel
theorem dL_law_365 : decode cL_law 365 = .ok (.aload_n 0, 1) := by decide +kernel
theorem dL_law_366 : decode cL_law 366 = .ok (.iload_n 3, 1) := by decide +kernel
theorem dL_law_367 : decode cL_law 367 = .ok (.iconst 2, 1) := by decide +kernel
theorem dL_law_368 : decode cL_law 368 = .ok (.iadd, 1) := by decide +kernel
theorem dL_law_369 : decode cL_law 369 = .ok (.iaload, 1) := by decide +kernel
theorem dL_law_370 : decode cL_law 370 = .ok (.aload_n 0, 1) := by decide +kernel
theorem dL_law_371 : decode cL_law 371 = .ok (.iload_n 3, 1) := by decide +kernel
theorem dL_law_372 : decode cL_law 372 = .ok (.iconst 3, 1) := by decide +kernel
theorem dL_law_373 : decode cL_law 373 = .ok (.iadd, 1) := by decide +kernel
theorem dL_law_374 : decode cL_law 374 = .ok (.iaload, 1) := by decide +kernel
theorem dL_law_375 : decode cL_law 375 = .ok (.invokevirtual 35, 3) := by decide +kernel
theorem dL_law_378 : decode cL_law 378 = .ok (.aload_n 2, 1) := by decide +kernel
theorem dL_law_379 : decode cL_law 379 = .ok (.aload_n 0, 1) := by decide +kernel
theorem dL_law_380 : decode cL_law 380 = .ok (.iload_n 3, 1) := by decide +kernel
theorem dL_law_381 : decode cL_law 381 = .ok (.iconst 1, 1) := by decide +kernel
theorem dL_law_382 : decode cL_law 382 = .ok (.iadd, 1) := by decide +kernel
theorem dL_law_383 : decode cL_law 383 = .ok (.iaload, 1) := by decide +kernel
theorem dL_law_384 : decode cL_law 384 = .ok (.aload_n 0, 1) := by decide +kernel
theorem dL_law_385 : decode cL_law 385 = .ok (.iload_n 3, 1) := by decide +kernel
theorem dL_law_386 : decode cL_law 386 = .ok (.iconst 2, 1) := by decide +kernel
theorem dL_law_387 : decode cL_law 387 = .ok (.iadd, 1) := by decide +kernel
theorem dL_law_388 : decode cL_law 388 = .ok (.iaload, 1) := by decide +kernel
theorem dL_law_389 : decode cL_law 389 = .ok (.aload_n 0, 1) := by decide +kernel
theorem dL_law_390 : decode cL_law 390 = .ok (.iload_n 3, 1) := by decide +kernel
theorem dL_law_391 : decode cL_law 391 = .ok (.iconst 3, 1) := by decide +kernel
theorem dL_law_392 : decode cL_law 392 = .ok (.iadd, 1) := by decide +kernel
theorem dL_law_393 : decode cL_law 393 = .ok (.iaload, 1) := by decide +kernel
theorem dL_law_394 : decode cL_law 394 = .ok (.invokevirtual 38, 3) := by decide +kernel
theorem dL_law_397 : decode cL_law 397 = .ok (.if_icmp .eq 736, 3) := by decide +kernel
theorem dL_law_400 : decode cL_law 400 = .ok (.iconst 0, 1) := by decide +kernel
theorem dL_law_401 : decode cL_law 401 = .ok (.ireturn, 1) := by decide +kernel
theorem dL_law_402 : decode cL_law 402 = .ok (.aload_n 1, 1) := by decide +kernel
theorem dL_law_403 : decode cL_law 403 = .ok (.aload_n 0, 1) := by decide +kernel
theorem dL_law_404 : decode cL_law 404 = .ok (.iload_n 3, 1) := by decide +kernel
theorem dL_law_405 : decode cL_law 405 = .ok (.iconst 1, 1) := by decide +kernel
theorem dL_law_406 : decode cL_law 406 = .ok (.iadd, 1) := by decide +kernel
theorem dL_law_407 : decode cL_law 407 = .ok (.iaload, 1) := by decide +kernel
theorem dL_law_408 : decode cL_law 408 = .ok (.aload_n 0, 1) := by decide +kernel
theorem dL_law_409 : decode cL_law 409 = .ok (.iload_n 3, 1) := by decide +kernel
theorem dL_law_410 : decode cL_law 410 = .ok (.iconst 2, 1) := by decide +kernel
theorem dL_law_411 : decode cL_law 411 = .ok (.iadd, 1) := by decide +kernel
theorem dL_law_412 : decode cL_law 412 = .ok (.iaload, 1) := by decide +kernel
theorem dL_law_413 : decode cL_law 413 = .ok (.i2l, 1) := by decide +kernel
theorem dL_law_414 : decode cL_law 414 = .ok (.bipush 32, 2) := by decide +kernel
theorem dL_law_416 : decode cL_law 416 = .ok (.lshl, 1) := by decide +kernel
theorem dL_law_417 : decode cL_law 417 = .ok (.aload_n 0, 1) := by decide +kernel
theorem dL_law_418 : decode cL_law 418 = .ok (.iload_n 3, 1) := by decide +kernel
theorem dL_law_419 : decode cL_law 419 = .ok (.iconst 3, 1) := by decide +kernel
theorem dL_law_420 : decode cL_law 420 = .ok (.iadd, 1) := by decide +kernel
theorem dL_law_421 : decode cL_law 421 = .ok (.iaload, 1) := by decide +kernel
theorem dL_law_422 : decode cL_law 422 = .ok (.i2l, 1) := by decide +kernel
theorem dL_law_423 : decode cL_law 423 = .ok (.ldc2_w 39, 3) := by decide +kernel
theorem dL_law_426 : decode cL_law 426 = .ok (.land, 1) := by decide +kernel
theorem dL_law_427 : decode cL_law 427 = .ok (.lor, 1) := by decide +kernel
theorem dL_law_428 : decode cL_law 428 = .ok (.invokevirtual 41, 3) := by decide +kernel
theorem dL_law_431 : decode cL_law 431 = .ok (.aload_n 2, 1) := by decide +kernel
theorem dL_law_432 : decode cL_law 432 = .ok (.aload_n 0, 1) := by decide +kernel
theorem dL_law_433 : decode cL_law 433 = .ok (.iload_n 3, 1) := by decide +kernel
theorem dL_law_434 : decode cL_law 434 = .ok (.iconst 1, 1) := by decide +kernel
theorem dL_law_435 : decode cL_law 435 = .ok (.iadd, 1) := by decide +kernel
theorem dL_law_436 : decode cL_law 436 = .ok (.iaload, 1) := by decide +kernel
theorem dL_law_437 : decode cL_law 437 = .ok (.aload_n 0, 1) := by decide +kernel
theorem dL_law_438 : decode cL_law 438 = .ok (.iload_n 3, 1) := by decide +kernel
theorem dL_law_439 : decode cL_law 439 = .ok (.iconst 2, 1) := by decide +kernel
theorem dL_law_440 : decode cL_law 440 = .ok (.iadd, 1) := by decide +kernel
theorem dL_law_441 : decode cL_law 441 = .ok (.iaload, 1) := by decide +kernel
theorem dL_law_442 : decode cL_law 442 = .ok (.i2l, 1) := by decide +kernel
theorem dL_law_443 : decode cL_law 443 = .ok (.bipush 32, 2) := by decide +kernel
theorem dL_law_445 : decode cL_law 445 = .ok (.lshl, 1) := by decide +kernel
theorem dL_law_446 : decode cL_law 446 = .ok (.aload_n 0, 1) := by decide +kernel
theorem dL_law_447 : decode cL_law 447 = .ok (.iload_n 3, 1) := by decide +kernel
theorem dL_law_448 : decode cL_law 448 = .ok (.iconst 3, 1) := by decide +kernel
theorem dL_law_449 : decode cL_law 449 = .ok (.iadd, 1) := by decide +kernel
theorem dL_law_450 : decode cL_law 450 = .ok (.iaload, 1) := by decide +kernel
theorem dL_law_451 : decode cL_law 451 = .ok (.i2l, 1) := by decide +kernel
theorem dL_law_452 : decode cL_law 452 = .ok (.ldc2_w 39, 3) := by decide +kernel
theorem dL_law_455 : decode cL_law 455 = .ok (.land, 1) := by decide +kernel
theorem dL_law_456 : decode cL_law 456 = .ok (.lor, 1) := by decide +kernel
theorem dL_law_457 : decode cL_law 457 = .ok (.invokevirtual 45, 3) := by decide +kernel
theorem dL_law_460 : decode cL_law 460 = .ok (.if_icmp .eq 673, 3) := by decide +kernel
theorem dL_law_463 : decode cL_law 463 = .ok (.iconst 0, 1) := by decide +kernel
theorem dL_law_464 : decode cL_law 464 = .ok (.ireturn, 1) := by decide +kernel
theorem dL_law_465 : decode cL_law 465 = .ok (.aload_n 1, 1) := by decide +kernel
theorem dL_law_466 : decode cL_law 466 = .ok (.invokevirtual 46, 3) := by decide +kernel
theorem dL_law_469 : decode cL_law 469 = .ok (.aload_n 2, 1) := by decide +kernel
theorem dL_law_470 : decode cL_law 470 = .ok (.invokevirtual 50, 3) := by decide +kernel
theorem dL_law_473 : decode cL_law 473 = .ok (.if_icmp .eq 660, 3) := by decide +kernel
theorem dL_law_476 : decode cL_law 476 = .ok (.iconst 0, 1) := by decide +kernel
theorem dL_law_477 : decode cL_law 477 = .ok (.ireturn, 1) := by decide +kernel
theorem dL_law_478 : decode cL_law 478 = .ok (.aload_n 1, 1) := by decide +kernel
theorem dL_law_479 : decode cL_law 479 = .ok (.aload_n 0, 1) := by decide +kernel
theorem dL_law_480 : decode cL_law 480 = .ok (.iload_n 3, 1) := by decide +kernel
theorem dL_law_481 : decode cL_law 481 = .ok (.iconst 1, 1) := by decide +kernel
theorem dL_law_482 : decode cL_law 482 = .ok (.iadd, 1) := by decide +kernel
theorem dL_law_483 : decode cL_law 483 = .ok (.iaload, 1) := by decide +kernel
theorem dL_law_484 : decode cL_law 484 = .ok (.invokevirtual 51, 3) := by decide +kernel
theorem dL_law_487 : decode cL_law 487 = .ok (.aload_n 2, 1) := by decide +kernel
theorem dL_law_488 : decode cL_law 488 = .ok (.aload_n 0, 1) := by decide +kernel
theorem dL_law_489 : decode cL_law 489 = .ok (.iload_n 3, 1) := by decide +kernel
theorem dL_law_490 : decode cL_law 490 = .ok (.iconst 1, 1) := by decide +kernel
theorem dL_law_491 : decode cL_law 491 = .ok (.iadd, 1) := by decide +kernel
theorem dL_law_492 : decode cL_law 492 = .ok (.iaload, 1) := by decide +kernel
theorem dL_law_493 : decode cL_law 493 = .ok (.invokevirtual 55, 3) := by decide +kernel
theorem dL_law_496 : decode cL_law 496 = .ok (.if_icmp .eq 637, 3) := by decide +kernel
theorem dL_law_499 : decode cL_law 499 = .ok (.iconst 0, 1) := by decide +kernel
theorem dL_law_500 : decode cL_law 500 = .ok (.ireturn, 1) := by decide +kernel
theorem dL_law_501 : decode cL_law 501 = .ok (.aload_n 1, 1) := by decide +kernel
theorem dL_law_502 : decode cL_law 502 = .ok (.aload_n 0, 1) := by decide +kernel
theorem dL_law_503 : decode cL_law 503 = .ok (.iload_n 3, 1) := by decide +kernel
theorem dL_law_504 : decode cL_law 504 = .ok (.iconst 1, 1) := by decide +kernel
theorem dL_law_505 : decode cL_law 505 = .ok (.iadd, 1) := by decide +kernel
theorem dL_law_506 : decode cL_law 506 = .ok (.iaload, 1) := by decide +kernel
theorem dL_law_507 : decode cL_law 507 = .ok (.aload_n 0, 1) := by decide +kernel
theorem dL_law_508 : decode cL_law 508 = .ok (.iload_n 3, 1) := by decide +kernel
theorem dL_law_509 : decode cL_law 509 = .ok (.iconst 2, 1) := by decide +kernel
theorem dL_law_510 : decode cL_law 510 = .ok (.iadd, 1) := by decide +kernel
theorem dL_law_511 : decode cL_law 511 = .ok (.iaload, 1) := by decide +kernel
theorem dL_law_512 : decode cL_law 512 = .ok (.invokevirtual 56, 3) := by decide +kernel
theorem dL_law_515 : decode cL_law 515 = .ok (.aload_n 2, 1) := by decide +kernel
theorem dL_law_516 : decode cL_law 516 = .ok (.aload_n 0, 1) := by decide +kernel
theorem dL_law_517 : decode cL_law 517 = .ok (.iload_n 3, 1) := by decide +kernel
theorem dL_law_518 : decode cL_law 518 = .ok (.iconst 1, 1) := by decide +kernel
theorem dL_law_519 : decode cL_law 519 = .ok (.iadd, 1) := by decide +kernel
theorem dL_law_520 : decode cL_law 520 = .ok (.iaload, 1) := by decide +kernel
theorem dL_law_521 : decode cL_law 521 = .ok (.aload_n 0, 1) := by decide +kernel
theorem dL_law_522 : decode cL_law 522 = .ok (.iload_n 3, 1) := by decide +kernel
theorem dL_law_523 : decode cL_law 523 = .ok (.iconst 2, 1) := by decide +kernel
theorem dL_law_524 : decode cL_law 524 = .ok (.iadd, 1) := by decide +kernel
theorem dL_law_525 : decode cL_law 525 = .ok (.iaload, 1) := by decide +kernel
theorem dL_law_526 : decode cL_law 526 = .ok (.invokevirtual 59, 3) := by decide +kernel
theorem dL_law_529 : decode cL_law 529 = .ok (.if_icmp .eq 604, 3) := by decide +kernel
theorem dL_law_532 : decode cL_law 532 = .ok (.iconst 0, 1) := by decide +kernel
theorem dL_law_533 : decode cL_law 533 = .ok (.ireturn, 1) := by decide +kernel
theorem dL_law_534 : decode cL_law 534 = .ok (.aload_n 1, 1) := by decide +kernel
theorem dL_law_535 : decode cL_law 535 = .ok (.aload_n 0, 1) := by decide +kernel
theorem dL_law_536 : decode cL_law 536 = .ok (.iload_n 3, 1) := by decide +kernel
theorem dL_law_537 : decode cL_law 537 = .ok (.iconst 1, 1) := by decide +kernel
theorem dL_law_538 : decode cL_law 538 = .ok (.iadd, 1) := by decide +kernel
theorem dL_law_539 : decode cL_law 539 = .ok (.iaload, 1) := by decide +kernel
theorem dL_law_540 : decode cL_law 540 = .ok (.invokevirtual 60, 3) := by decide +kernel
theorem dL_law_543 : decode cL_law 543 = .ok (.aload_n 2, 1) := by decide +kernel
theorem dL_law_544 : decode cL_law 544 = .ok (.aload_n 0, 1) := by decide +kernel
theorem dL_law_545 : decode cL_law 545 = .ok (.iload_n 3, 1) := by decide +kernel
theorem dL_law_546 : decode cL_law 546 = .ok (.iconst 1, 1) := by decide +kernel
theorem dL_law_547 : decode cL_law 547 = .ok (.iadd, 1) := by decide +kernel
theorem dL_law_548 : decode cL_law 548 = .ok (.iaload, 1) := by decide +kernel
theorem dL_law_549 : decode cL_law 549 = .ok (.invokevirtual 64, 3) := by decide +kernel
theorem dL_law_552 : decode cL_law 552 = .ok (.lcmp, 1) := by decide +kernel
theorem dL_law_553 : decode cL_law 553 = .ok (.ifCond .eq 580, 3) := by decide +kernel
theorem dL_law_556 : decode cL_law 556 = .ok (.iconst 0, 1) := by decide +kernel
theorem dL_law_557 : decode cL_law 557 = .ok (.ireturn, 1) := by decide +kernel
theorem dL_law_558 : decode cL_law 558 = .ok (.aload_n 1, 1) := by decide +kernel
theorem dL_law_559 : decode cL_law 559 = .ok (.aload_n 0, 1) := by decide +kernel
theorem dL_law_560 : decode cL_law 560 = .ok (.iload_n 3, 1) := by decide +kernel
theorem dL_law_561 : decode cL_law 561 = .ok (.iconst 1, 1) := by decide +kernel
theorem dL_law_562 : decode cL_law 562 = .ok (.iadd, 1) := by decide +kernel
theorem dL_law_563 : decode cL_law 563 = .ok (.iaload, 1) := by decide +kernel
theorem dL_law_564 : decode cL_law 564 = .ok (.aload_n 0, 1) := by decide +kernel
theorem dL_law_565 : decode cL_law 565 = .ok (.iload_n 3, 1) := by decide +kernel
theorem dL_law_566 : decode cL_law 566 = .ok (.iconst 2, 1) := by decide +kernel
theorem dL_law_567 : decode cL_law 567 = .ok (.iadd, 1) := by decide +kernel
theorem dL_law_568 : decode cL_law 568 = .ok (.iaload, 1) := by decide +kernel
theorem dL_law_569 : decode cL_law 569 = .ok (.invokevirtual 65, 3) := by decide +kernel
theorem dL_law_572 : decode cL_law 572 = .ok (.aload_n 2, 1) := by decide +kernel
theorem dL_law_573 : decode cL_law 573 = .ok (.aload_n 0, 1) := by decide +kernel
theorem dL_law_574 : decode cL_law 574 = .ok (.iload_n 3, 1) := by decide +kernel
theorem dL_law_575 : decode cL_law 575 = .ok (.iconst 1, 1) := by decide +kernel
theorem dL_law_576 : decode cL_law 576 = .ok (.iadd, 1) := by decide +kernel
theorem dL_law_577 : decode cL_law 577 = .ok (.iaload, 1) := by decide +kernel
theorem dL_law_578 : decode cL_law 578 = .ok (.aload_n 0, 1) := by decide +kernel
theorem dL_law_579 : decode cL_law 579 = .ok (.iload_n 3, 1) := by decide +kernel
theorem dL_law_580 : decode cL_law 580 = .ok (.iconst 2, 1) := by decide +kernel
theorem dL_law_581 : decode cL_law 581 = .ok (.iadd, 1) := by decide +kernel
theorem dL_law_582 : decode cL_law 582 = .ok (.iaload, 1) := by decide +kernel
theorem dL_law_583 : decode cL_law 583 = .ok (.invokevirtual 68, 3) := by decide +kernel
theorem dL_law_586 : decode cL_law 586 = .ok (.if_icmp .eq 547, 3) := by decide +kernel
theorem dL_law_589 : decode cL_law 589 = .ok (.iconst 0, 1) := by decide +kernel
theorem dL_law_590 : decode cL_law 590 = .ok (.ireturn, 1) := by decide +kernel
theorem dL_law_591 : decode cL_law 591 = .ok (.aload_n 1, 1) := by decide +kernel
theorem dL_law_592 : decode cL_law 592 = .ok (.aload_n 0, 1) := by decide +kernel
theorem dL_law_593 : decode cL_law 593 = .ok (.iload_n 3, 1) := by decide +kernel
theorem dL_law_594 : decode cL_law 594 = .ok (.iconst 1, 1) := by decide +kernel
theorem dL_law_595 : decode cL_law 595 = .ok (.iadd, 1) := by decide +kernel
theorem dL_law_596 : decode cL_law 596 = .ok (.iaload, 1) := by decide +kernel
theorem dL_law_597 : decode cL_law 597 = .ok (.aload_n 0, 1) := by decide +kernel
theorem dL_law_598 : decode cL_law 598 = .ok (.iload_n 3, 1) := by decide +kernel
theorem dL_law_599 : decode cL_law 599 = .ok (.iconst 2, 1) := by decide +kernel
theorem dL_law_600 : decode cL_law 600 = .ok (.iadd, 1) := by decide +kernel
theorem dL_law_601 : decode cL_law 601 = .ok (.iaload, 1) := by decide +kernel
theorem dL_law_602 : decode cL_law 602 = .ok (.invokevirtual 69, 3) := by decide +kernel
theorem dL_law_605 : decode cL_law 605 = .ok (.aload_n 2, 1) := by decide +kernel
theorem dL_law_606 : decode cL_law 606 = .ok (.aload_n 0, 1) := by decide +kernel
theorem dL_law_607 : decode cL_law 607 = .ok (.iload_n 3, 1) := by decide +kernel
theorem dL_law_608 : decode cL_law 608 = .ok (.iconst 1, 1) := by decide +kernel
theorem dL_law_609 : decode cL_law 609 = .ok (.iadd, 1) := by decide +kernel
theorem dL_law_610 : decode cL_law 610 = .ok (.iaload, 1) := by decide +kernel
theorem dL_law_611 : decode cL_law 611 = .ok (.aload_n 0, 1) := by decide +kernel
theorem dL_law_612 : decode cL_law 612 = .ok (.iload_n 3, 1) := by decide +kernel
theorem dL_law_613 : decode cL_law 613 = .ok (.iconst 2, 1) := by decide +kernel
theorem dL_law_614 : decode cL_law 614 = .ok (.iadd, 1) := by decide +kernel
theorem dL_law_615 : decode cL_law 615 = .ok (.iaload, 1) := by decide +kernel
theorem dL_law_616 : decode cL_law 616 = .ok (.invokevirtual 72, 3) := by decide +kernel
theorem dL_law_619 : decode cL_law 619 = .ok (.if_icmp .eq 514, 3) := by decide +kernel
theorem dL_law_622 : decode cL_law 622 = .ok (.iconst 0, 1) := by decide +kernel
theorem dL_law_623 : decode cL_law 623 = .ok (.ireturn, 1) := by decide +kernel
theorem dL_law_624 : decode cL_law 624 = .ok (.aload_n 1, 1) := by decide +kernel
theorem dL_law_625 : decode cL_law 625 = .ok (.aload_n 0, 1) := by decide +kernel
theorem dL_law_626 : decode cL_law 626 = .ok (.iload_n 3, 1) := by decide +kernel
theorem dL_law_627 : decode cL_law 627 = .ok (.iconst 1, 1) := by decide +kernel
theorem dL_law_628 : decode cL_law 628 = .ok (.iadd, 1) := by decide +kernel
theorem dL_law_629 : decode cL_law 629 = .ok (.iaload, 1) := by decide +kernel
theorem dL_law_630 : decode cL_law 630 = .ok (.aload_n 0, 1) := by decide +kernel
theorem dL_law_631 : decode cL_law 631 = .ok (.iload_n 3, 1) := by decide +kernel
theorem dL_law_632 : decode cL_law 632 = .ok (.iconst 2, 1) := by decide +kernel
theorem dL_law_633 : decode cL_law 633 = .ok (.iadd, 1) := by decide +kernel
theorem dL_law_634 : decode cL_law 634 = .ok (.iaload, 1) := by decide +kernel
theorem dL_law_635 : decode cL_law 635 = .ok (.aload_n 0, 1) := by decide +kernel
theorem dL_law_636 : decode cL_law 636 = .ok (.iload_n 3, 1) := by decide +kernel
theorem dL_law_637 : decode cL_law 637 = .ok (.iconst 3, 1) := by decide +kernel
theorem dL_law_638 : decode cL_law 638 = .ok (.iadd, 1) := by decide +kernel
theorem dL_law_639 : decode cL_law 639 = .ok (.iaload, 1) := by decide +kernel
theorem dL_law_640 : decode cL_law 640 = .ok (.invokevirtual 73, 3) := by decide +kernel
theorem dL_law_643 : decode cL_law 643 = .ok (.aload_n 2, 1) := by decide +kernel
theorem dL_law_644 : decode cL_law 644 = .ok (.aload_n 0, 1) := by decide +kernel
theorem dL_law_645 : decode cL_law 645 = .ok (.iload_n 3, 1) := by decide +kernel
theorem dL_law_646 : decode cL_law 646 = .ok (.iconst 1, 1) := by decide +kernel
theorem dL_law_647 : decode cL_law 647 = .ok (.iadd, 1) := by decide +kernel
theorem dL_law_648 : decode cL_law 648 = .ok (.iaload, 1) := by decide +kernel
theorem dL_law_649 : decode cL_law 649 = .ok (.aload_n 0, 1) := by decide +kernel
theorem dL_law_650 : decode cL_law 650 = .ok (.iload_n 3, 1) := by decide +kernel
theorem dL_law_651 : decode cL_law 651 = .ok (.iconst 2, 1) := by decide +kernel
theorem dL_law_652 : decode cL_law 652 = .ok (.iadd, 1) := by decide +kernel
theorem dL_law_653 : decode cL_law 653 = .ok (.iaload, 1) := by decide +kernel
theorem dL_law_654 : decode cL_law 654 = .ok (.aload_n 0, 1) := by decide +kernel
theorem dL_law_655 : decode cL_law 655 = .ok (.iload_n 3, 1) := by decide +kernel
theorem dL_law_656 : decode cL_law 656 = .ok (.iconst 3, 1) := by decide +kernel
theorem dL_law_657 : decode cL_law 657 = .ok (.iadd, 1) := by decide +kernel
theorem dL_law_658 : decode cL_law 658 = .ok (.iaload, 1) := by decide +kernel
theorem dL_law_659 : decode cL_law 659 = .ok (.invokevirtual 76, 3) := by decide +kernel
theorem dL_law_662 : decode cL_law 662 = .ok (.if_icmp .eq 471, 3) := by decide +kernel
theorem dL_law_665 : decode cL_law 665 = .ok (.iconst 0, 1) := by decide +kernel
theorem dL_law_666 : decode cL_law 666 = .ok (.ireturn, 1) := by decide +kernel
theorem dL_law_667 : decode cL_law 667 = .ok (.aload_n 1, 1) := by decide +kernel
theorem dL_law_668 : decode cL_law 668 = .ok (.aload_n 0, 1) := by decide +kernel
theorem dL_law_669 : decode cL_law 669 = .ok (.iload_n 3, 1) := by decide +kernel
theorem dL_law_670 : decode cL_law 670 = .ok (.iconst 1, 1) := by decide +kernel
theorem dL_law_671 : decode cL_law 671 = .ok (.iadd, 1) := by decide +kernel
theorem dL_law_672 : decode cL_law 672 = .ok (.iaload, 1) := by decide +kernel
theorem dL_law_673 : decode cL_law 673 = .ok (.aload_n 0, 1) := by decide +kernel
theorem dL_law_674 : decode cL_law 674 = .ok (.iload_n 3, 1) := by decide +kernel
theorem dL_law_675 : decode cL_law 675 = .ok (.iconst 2, 1) := by decide +kernel
theorem dL_law_676 : decode cL_law 676 = .ok (.iadd, 1) := by decide +kernel
theorem dL_law_677 : decode cL_law 677 = .ok (.iaload, 1) := by decide +kernel
theorem dL_law_678 : decode cL_law 678 = .ok (.invokevirtual 77, 3) := by decide +kernel
theorem dL_law_681 : decode cL_law 681 = .ok (.aload_n 2, 1) := by decide +kernel
theorem dL_law_682 : decode cL_law 682 = .ok (.aload_n 0, 1) := by decide +kernel
theorem dL_law_683 : decode cL_law 683 = .ok (.iload_n 3, 1) := by decide +kernel
theorem dL_law_684 : decode cL_law 684 = .ok (.iconst 1, 1) := by decide +kernel
theorem dL_law_685 : decode cL_law 685 = .ok (.iadd, 1) := by decide +kernel
theorem dL_law_686 : decode cL_law 686 = .ok (.iaload, 1) := by decide +kernel
theorem dL_law_687 : decode cL_law 687 = .ok (.aload_n 0, 1) := by decide +kernel
theorem dL_law_688 : decode cL_law 688 = .ok (.iload_n 3, 1) := by decide +kernel
theorem dL_law_689 : decode cL_law 689 = .ok (.iconst 2, 1) := by decide +kernel
theorem dL_law_690 : decode cL_law 690 = .ok (.iadd, 1) := by decide +kernel
theorem dL_law_691 : decode cL_law 691 = .ok (.iaload, 1) := by decide +kernel
theorem dL_law_692 : decode cL_law 692 = .ok (.invokevirtual 80, 3) := by decide +kernel
theorem dL_law_695 : decode cL_law 695 = .ok (.if_icmp .eq 438, 3) := by decide +kernel
theorem dL_law_698 : decode cL_law 698 = .ok (.iconst 0, 1) := by decide +kernel
theorem dL_law_699 : decode cL_law 699 = .ok (.ireturn, 1) := by decide +kernel
theorem dL_law_700 : decode cL_law 700 = .ok (.aload_n 1, 1) := by decide +kernel
theorem dL_law_701 : decode cL_law 701 = .ok (.aload_n 0, 1) := by decide +kernel
theorem dL_law_702 : decode cL_law 702 = .ok (.iload_n 3, 1) := by decide +kernel
theorem dL_law_703 : decode cL_law 703 = .ok (.iconst 1, 1) := by decide +kernel
theorem dL_law_704 : decode cL_law 704 = .ok (.iadd, 1) := by decide +kernel
theorem dL_law_705 : decode cL_law 705 = .ok (.iaload, 1) := by decide +kernel
theorem dL_law_706 : decode cL_law 706 = .ok (.aload_n 0, 1) := by decide +kernel
theorem dL_law_707 : decode cL_law 707 = .ok (.iload_n 3, 1) := by decide +kernel
theorem dL_law_708 : decode cL_law 708 = .ok (.iconst 2, 1) := by decide +kernel
theorem dL_law_709 : decode cL_law 709 = .ok (.iadd, 1) := by decide +kernel
theorem dL_law_710 : decode cL_law 710 = .ok (.iaload, 1) := by decide +kernel
theorem dL_law_711 : decode cL_law 711 = .ok (.invokevirtual 81, 3) := by decide +kernel
theorem dL_law_714 : decode cL_law 714 = .ok (.aload_n 2, 1) := by decide +kernel
theorem dL_law_715 : decode cL_law 715 = .ok (.aload_n 0, 1) := by decide +kernel
theorem dL_law_716 : decode cL_law 716 = .ok (.iload_n 3, 1) := by decide +kernel
theorem dL_law_717 : decode cL_law 717 = .ok (.iconst 1, 1) := by decide +kernel
theorem dL_law_718 : decode cL_law 718 = .ok (.iadd, 1) := by decide +kernel
theorem dL_law_719 : decode cL_law 719 = .ok (.iaload, 1) := by decide +kernel
theorem dL_law_720 : decode cL_law 720 = .ok (.aload_n 0, 1) := by decide +kernel
theorem dL_law_721 : decode cL_law 721 = .ok (.iload_n 3, 1) := by decide +kernel
theorem dL_law_722 : decode cL_law 722 = .ok (.iconst 2, 1) := by decide +kernel
theorem dL_law_723 : decode cL_law 723 = .ok (.iadd, 1) := by decide +kernel
theorem dL_law_724 : decode cL_law 724 = .ok (.iaload, 1) := by decide +kernel
theorem dL_law_725 : decode cL_law 725 = .ok (.invokevirtual 84, 3) := by decide +kernel
theorem dL_law_728 : decode cL_law 728 = .ok (.if_icmp .eq 405, 3) := by decide +kernel
theorem dL_law_731 : decode cL_law 731 = .ok (.iconst 0, 1) := by decide +kernel
theorem dL_law_732 : decode cL_law 732 = .ok (.ireturn, 1) := by decide +kernel
theorem dL_law_733 : decode cL_law 733 = .ok (.aload_n 1, 1) := by decide +kernel
theorem dL_law_734 : decode cL_law 734 = .ok (.aload_n 0, 1) := by decide +kernel
theorem dL_law_735 : decode cL_law 735 = .ok (.iload_n 3, 1) := by decide +kernel
theorem dL_law_736 : decode cL_law 736 = .ok (.iconst 1, 1) := by decide +kernel
theorem dL_law_737 : decode cL_law 737 = .ok (.iadd, 1) := by decide +kernel
theorem dL_law_738 : decode cL_law 738 = .ok (.iaload, 1) := by decide +kernel
theorem dL_law_739 : decode cL_law 739 = .ok (.aload_n 0, 1) := by decide +kernel
theorem dL_law_740 : decode cL_law 740 = .ok (.iload_n 3, 1) := by decide +kernel
theorem dL_law_741 : decode cL_law 741 = .ok (.iconst 2, 1) := by decide +kernel
theorem dL_law_742 : decode cL_law 742 = .ok (.iadd, 1) := by decide +kernel
theorem dL_law_743 : decode cL_law 743 = .ok (.iaload, 1) := by decide +kernel
theorem dL_law_744 : decode cL_law 744 = .ok (.invokevirtual 85, 3) := by decide +kernel
theorem dL_law_747 : decode cL_law 747 = .ok (.aload_n 2, 1) := by decide +kernel
theorem dL_law_748 : decode cL_law 748 = .ok (.aload_n 0, 1) := by decide +kernel
theorem dL_law_749 : decode cL_law 749 = .ok (.iload_n 3, 1) := by decide +kernel
theorem dL_law_750 : decode cL_law 750 = .ok (.iconst 1, 1) := by decide +kernel
theorem dL_law_751 : decode cL_law 751 = .ok (.iadd, 1) := by decide +kernel
theorem dL_law_752 : decode cL_law 752 = .ok (.iaload, 1) := by decide +kernel
theorem dL_law_753 : decode cL_law 753 = .ok (.aload_n 0, 1) := by decide +kernel
theorem dL_law_754 : decode cL_law 754 = .ok (.iload_n 3, 1) := by decide +kernel
theorem dL_law_755 : decode cL_law 755 = .ok (.iconst 2, 1) := by decide +kernel
theorem dL_law_756 : decode cL_law 756 = .ok (.iadd, 1) := by decide +kernel
theorem dL_law_757 : decode cL_law 757 = .ok (.iaload, 1) := by decide +kernel
theorem dL_law_758 : decode cL_law 758 = .ok (.invokevirtual 88, 3) := by decide +kernel
theorem dL_law_761 : decode cL_law 761 = .ok (.if_icmp .eq 372, 3) := by decide +kernel
theorem dL_law_764 : decode cL_law 764 = .ok (.iconst 0, 1) := by decide +kernel
theorem dL_law_765 : decode cL_law 765 = .ok (.ireturn, 1) := by decide +kernel
theorem dL_law_766 : decode cL_law 766 = .ok (.aload_n 1, 1) := by decide +kernel
theorem dL_law_767 : decode cL_law 767 = .ok (.aload_n 0, 1) := by decide +kernel
theorem dL_law_768 : decode cL_law 768 = .ok (.iload_n 3, 1) := by decide +kernel
theorem dL_law_769 : decode cL_law 769 = .ok (.iconst 1, 1) := by decide +kernel
theorem dL_law_770 : decode cL_law 770 = .ok (.iadd, 1) := by decide +kernel
theorem dL_law_771 : decode cL_law 771 = .ok (.iaload, 1) := by decide +kernel
theorem dL_law_772 : decode cL_law 772 = .ok (.invokevirtual 89, 3) := by decide +kernel
theorem dL_law_775 : decode cL_law 775 = .ok (.aload_n 2, 1) := by decide +kernel
theorem dL_law_776 : decode cL_law 776 = .ok (.aload_n 0, 1) := by decide +kernel
theorem dL_law_777 : decode cL_law 777 = .ok (.iload_n 3, 1) := by decide +kernel
theorem dL_law_778 : decode cL_law 778 = .ok (.iconst 1, 1) := by decide +kernel
theorem dL_law_779 : decode cL_law 779 = .ok (.iadd, 1) := by decide +kernel
theorem dL_law_780 : decode cL_law 780 = .ok (.iaload, 1) := by decide +kernel
theorem dL_law_781 : decode cL_law 781 = .ok (.invokevirtual 92, 3) := by decide +kernel
theorem dL_law_784 : decode cL_law 784 = .ok (.lcmp, 1) := by decide +kernel
theorem dL_law_785 : decode cL_law 785 = .ok (.ifCond .eq 348, 3) := by decide +kernel
theorem dL_law_788 : decode cL_law 788 = .ok (.iconst 0, 1) := by decide +kernel
theorem dL_law_789 : decode cL_law 789 = .ok (.ireturn, 1) := by decide +kernel
theorem dL_law_790 : decode cL_law 790 = .ok (.aload_n 1, 1) := by decide +kernel
theorem dL_law_791 : decode cL_law 791 = .ok (.invokevirtual 93, 3) := by decide +kernel
theorem dL_law_794 : decode cL_law 794 = .ok (.aload_n 2, 1) := by decide +kernel
theorem dL_law_795 : decode cL_law 795 = .ok (.invokevirtual 96, 3) := by decide +kernel
theorem dL_law_798 : decode cL_law 798 = .ok (.if_icmp .eq 335, 3) := by decide +kernel
theorem dL_law_801 : decode cL_law 801 = .ok (.iconst 0, 1) := by decide +kernel
theorem dL_law_802 : decode cL_law 802 = .ok (.ireturn, 1) := by decide +kernel
theorem dL_law_803 : decode cL_law 803 = .ok (.aload_n 1, 1) := by decide +kernel
theorem dL_law_804 : decode cL_law 804 = .ok (.aload_n 0, 1) := by decide +kernel
theorem dL_law_805 : decode cL_law 805 = .ok (.iload_n 3, 1) := by decide +kernel
theorem dL_law_806 : decode cL_law 806 = .ok (.iconst 1, 1) := by decide +kernel
theorem dL_law_807 : decode cL_law 807 = .ok (.iadd, 1) := by decide +kernel
theorem dL_law_808 : decode cL_law 808 = .ok (.iaload, 1) := by decide +kernel
theorem dL_law_809 : decode cL_law 809 = .ok (.invokevirtual 97, 3) := by decide +kernel
theorem dL_law_812 : decode cL_law 812 = .ok (.aload_n 2, 1) := by decide +kernel
theorem dL_law_813 : decode cL_law 813 = .ok (.aload_n 0, 1) := by decide +kernel
theorem dL_law_814 : decode cL_law 814 = .ok (.iload_n 3, 1) := by decide +kernel
theorem dL_law_815 : decode cL_law 815 = .ok (.iconst 1, 1) := by decide +kernel
theorem dL_law_816 : decode cL_law 816 = .ok (.iadd, 1) := by decide +kernel
theorem dL_law_817 : decode cL_law 817 = .ok (.iaload, 1) := by decide +kernel
theorem dL_law_818 : decode cL_law 818 = .ok (.invokevirtual 100, 3) := by decide +kernel
theorem dL_law_821 : decode cL_law 821 = .ok (.if_icmp .eq 312, 3) := by decide +kernel
theorem dL_law_824 : decode cL_law 824 = .ok (.iconst 0, 1) := by decide +kernel
theorem dL_law_825 : decode cL_law 825 = .ok (.ireturn, 1) := by decide +kernel
theorem dL_law_826 : decode cL_law 826 = .ok (.aload_n 1, 1) := by decide +kernel
theorem dL_law_827 : decode cL_law 827 = .ok (.aload_n 0, 1) := by decide +kernel
theorem dL_law_828 : decode cL_law 828 = .ok (.iload_n 3, 1) := by decide +kernel
theorem dL_law_829 : decode cL_law 829 = .ok (.iconst 1, 1) := by decide +kernel
theorem dL_law_830 : decode cL_law 830 = .ok (.iadd, 1) := by decide +kernel
theorem dL_law_831 : decode cL_law 831 = .ok (.iaload, 1) := by decide +kernel
theorem dL_law_832 : decode cL_law 832 = .ok (.invokevirtual 101, 3) := by decide +kernel
theorem dL_law_835 : decode cL_law 835 = .ok (.aload_n 2, 1) := by decide +kernel
theorem dL_law_836 : decode cL_law 836 = .ok (.aload_n 0, 1) := by decide +kernel
theorem dL_law_837 : decode cL_law 837 = .ok (.iload_n 3, 1) := by decide +kernel
theorem dL_law_838 : decode cL_law 838 = .ok (.iconst 1, 1) := by decide +kernel
theorem dL_law_839 : decode cL_law 839 = .ok (.iadd, 1) := by decide +kernel
theorem dL_law_840 : decode cL_law 840 = .ok (.iaload, 1) := by decide +kernel
theorem dL_law_841 : decode cL_law 841 = .ok (.invokevirtual 104, 3) := by decide +kernel
theorem dL_law_844 : decode cL_law 844 = .ok (.if_icmp .eq 289, 3) := by decide +kernel
theorem dL_law_847 : decode cL_law 847 = .ok (.iconst 0, 1) := by decide +kernel
theorem dL_law_848 : decode cL_law 848 = .ok (.ireturn, 1) := by decide +kernel
theorem dL_law_849 : decode cL_law 849 = .ok (.aload_n 1, 1) := by decide +kernel
theorem dL_law_850 : decode cL_law 850 = .ok (.invokevirtual 105, 3) := by decide +kernel
theorem dL_law_853 : decode cL_law 853 = .ok (.aload_n 2, 1) := by decide +kernel
theorem dL_law_854 : decode cL_law 854 = .ok (.invokevirtual 108, 3) := by decide +kernel
theorem dL_law_857 : decode cL_law 857 = .ok (.if_icmp .eq 276, 3) := by decide +kernel
theorem dL_law_860 : decode cL_law 860 = .ok (.iconst 0, 1) := by decide +kernel
theorem dL_law_861 : decode cL_law 861 = .ok (.ireturn, 1) := by decide +kernel
theorem dL_law_862 : decode cL_law 862 = .ok (.aload_n 1, 1) := by decide +kernel
theorem dL_law_863 : decode cL_law 863 = .ok (.invokevirtual 109, 3) := by decide +kernel
theorem dL_law_866 : decode cL_law 866 = .ok (.aload_n 2, 1) := by decide +kernel
theorem dL_law_867 : decode cL_law 867 = .ok (.invokevirtual 112, 3) := by decide +kernel
theorem dL_law_870 : decode cL_law 870 = .ok (.if_icmp .eq 263, 3) := by decide +kernel
theorem dL_law_873 : decode cL_law 873 = .ok (.iconst 0, 1) := by decide +kernel
theorem dL_law_874 : decode cL_law 874 = .ok (.ireturn, 1) := by decide +kernel
theorem dL_law_875 : decode cL_law 875 = .ok (.aload_n 1, 1) := by decide +kernel
theorem dL_law_876 : decode cL_law 876 = .ok (.aload_n 0, 1) := by decide +kernel
theorem dL_law_877 : decode cL_law 877 = .ok (.iload_n 3, 1) := by decide +kernel
theorem dL_law_878 : decode cL_law 878 = .ok (.iconst 1, 1) := by decide +kernel
theorem dL_law_879 : decode cL_law 879 = .ok (.iadd, 1) := by decide +kernel
theorem dL_law_880 : decode cL_law 880 = .ok (.iaload, 1) := by decide +kernel
theorem dL_law_881 : decode cL_law 881 = .ok (.invokevirtual 113, 3) := by decide +kernel
theorem dL_law_884 : decode cL_law 884 = .ok (.aload_n 2, 1) := by decide +kernel
theorem dL_law_885 : decode cL_law 885 = .ok (.aload_n 0, 1) := by decide +kernel
theorem dL_law_886 : decode cL_law 886 = .ok (.iload_n 3, 1) := by decide +kernel
theorem dL_law_887 : decode cL_law 887 = .ok (.iconst 1, 1) := by decide +kernel
theorem dL_law_888 : decode cL_law 888 = .ok (.iadd, 1) := by decide +kernel
theorem dL_law_889 : decode cL_law 889 = .ok (.iaload, 1) := by decide +kernel
theorem dL_law_890 : decode cL_law 890 = .ok (.invokevirtual 116, 3) := by decide +kernel
theorem dL_law_893 : decode cL_law 893 = .ok (.if_icmp .eq 240, 3) := by decide +kernel
theorem dL_law_896 : decode cL_law 896 = .ok (.iconst 0, 1) := by decide +kernel
theorem dL_law_897 : decode cL_law 897 = .ok (.ireturn, 1) := by decide +kernel
theorem dL_law_898 : decode cL_law 898 = .ok (.aload_n 1, 1) := by decide +kernel
theorem dL_law_899 : decode cL_law 899 = .ok (.aload_n 0, 1) := by decide +kernel
theorem dL_law_900 : decode cL_law 900 = .ok (.iload_n 3, 1) := by decide +kernel
theorem dL_law_901 : decode cL_law 901 = .ok (.iconst 1, 1) := by decide +kernel
theorem dL_law_902 : decode cL_law 902 = .ok (.iadd, 1) := by decide +kernel
theorem dL_law_903 : decode cL_law 903 = .ok (.iaload, 1) := by decide +kernel
theorem dL_law_904 : decode cL_law 904 = .ok (.aload_n 0, 1) := by decide +kernel
theorem dL_law_905 : decode cL_law 905 = .ok (.iload_n 3, 1) := by decide +kernel
theorem dL_law_906 : decode cL_law 906 = .ok (.iconst 2, 1) := by decide +kernel
theorem dL_law_907 : decode cL_law 907 = .ok (.iadd, 1) := by decide +kernel
theorem dL_law_908 : decode cL_law 908 = .ok (.iaload, 1) := by decide +kernel
theorem dL_law_909 : decode cL_law 909 = .ok (.aload_n 0, 1) := by decide +kernel
theorem dL_law_910 : decode cL_law 910 = .ok (.iload_n 3, 1) := by decide +kernel
theorem dL_law_911 : decode cL_law 911 = .ok (.iconst 3, 1) := by decide +kernel
theorem dL_law_912 : decode cL_law 912 = .ok (.iadd, 1) := by decide +kernel
theorem dL_law_913 : decode cL_law 913 = .ok (.iaload, 1) := by decide +kernel
theorem dL_law_914 : decode cL_law 914 = .ok (.invokevirtual 117, 3) := by decide +kernel
theorem dL_law_917 : decode cL_law 917 = .ok (.aload_n 2, 1) := by decide +kernel
theorem dL_law_918 : decode cL_law 918 = .ok (.aload_n 0, 1) := by decide +kernel
theorem dL_law_919 : decode cL_law 919 = .ok (.iload_n 3, 1) := by decide +kernel
theorem dL_law_920 : decode cL_law 920 = .ok (.iconst 1, 1) := by decide +kernel
theorem dL_law_921 : decode cL_law 921 = .ok (.iadd, 1) := by decide +kernel
theorem dL_law_922 : decode cL_law 922 = .ok (.iaload, 1) := by decide +kernel
theorem dL_law_923 : decode cL_law 923 = .ok (.aload_n 0, 1) := by decide +kernel
theorem dL_law_924 : decode cL_law 924 = .ok (.iload_n 3, 1) := by decide +kernel
theorem dL_law_925 : decode cL_law 925 = .ok (.iconst 2, 1) := by decide +kernel
theorem dL_law_926 : decode cL_law 926 = .ok (.iadd, 1) := by decide +kernel
theorem dL_law_927 : decode cL_law 927 = .ok (.iaload, 1) := by decide +kernel
theorem dL_law_928 : decode cL_law 928 = .ok (.aload_n 0, 1) := by decide +kernel
theorem dL_law_929 : decode cL_law 929 = .ok (.iload_n 3, 1) := by decide +kernel
theorem dL_law_930 : decode cL_law 930 = .ok (.iconst 3, 1) := by decide +kernel
theorem dL_law_931 : decode cL_law 931 = .ok (.iadd, 1) := by decide +kernel
theorem dL_law_932 : decode cL_law 932 = .ok (.iaload, 1) := by decide +kernel
theorem dL_law_933 : decode cL_law 933 = .ok (.invokevirtual 120, 3) := by decide +kernel
theorem dL_law_936 : decode cL_law 936 = .ok (.if_icmp .eq 197, 3) := by decide +kernel
theorem dL_law_939 : decode cL_law 939 = .ok (.iconst 0, 1) := by decide +kernel
theorem dL_law_940 : decode cL_law 940 = .ok (.ireturn, 1) := by decide +kernel
theorem dL_law_941 : decode cL_law 941 = .ok (.aload_n 1, 1) := by decide +kernel
theorem dL_law_942 : decode cL_law 942 = .ok (.aload_n 0, 1) := by decide +kernel
theorem dL_law_943 : decode cL_law 943 = .ok (.iload_n 3, 1) := by decide +kernel
theorem dL_law_944 : decode cL_law 944 = .ok (.iconst 1, 1) := by decide +kernel
theorem dL_law_945 : decode cL_law 945 = .ok (.iadd, 1) := by decide +kernel
theorem dL_law_946 : decode cL_law 946 = .ok (.iaload, 1) := by decide +kernel
theorem dL_law_947 : decode cL_law 947 = .ok (.aload_n 0, 1) := by decide +kernel
theorem dL_law_948 : decode cL_law 948 = .ok (.iload_n 3, 1) := by decide +kernel
theorem dL_law_949 : decode cL_law 949 = .ok (.iconst 2, 1) := by decide +kernel
theorem dL_law_950 : decode cL_law 950 = .ok (.iadd, 1) := by decide +kernel
theorem dL_law_951 : decode cL_law 951 = .ok (.iaload, 1) := by decide +kernel
theorem dL_law_952 : decode cL_law 952 = .ok (.aload_n 0, 1) := by decide +kernel
theorem dL_law_953 : decode cL_law 953 = .ok (.iload_n 3, 1) := by decide +kernel
theorem dL_law_954 : decode cL_law 954 = .ok (.iconst 3, 1) := by decide +kernel
theorem dL_law_955 : decode cL_law 955 = .ok (.iadd, 1) := by decide +kernel
theorem dL_law_956 : decode cL_law 956 = .ok (.iaload, 1) := by decide +kernel
theorem dL_law_957 : decode cL_law 957 = .ok (.invokevirtual 121, 3) := by decide +kernel
theorem dL_law_960 : decode cL_law 960 = .ok (.aload_n 2, 1) := by decide +kernel
theorem dL_law_961 : decode cL_law 961 = .ok (.aload_n 0, 1) := by decide +kernel
theorem dL_law_962 : decode cL_law 962 = .ok (.iload_n 3, 1) := by decide +kernel
theorem dL_law_963 : decode cL_law 963 = .ok (.iconst 1, 1) := by decide +kernel
theorem dL_law_964 : decode cL_law 964 = .ok (.iadd, 1) := by decide +kernel
theorem dL_law_965 : decode cL_law 965 = .ok (.iaload, 1) := by decide +kernel
theorem dL_law_966 : decode cL_law 966 = .ok (.aload_n 0, 1) := by decide +kernel
theorem dL_law_967 : decode cL_law 967 = .ok (.iload_n 3, 1) := by decide +kernel
theorem dL_law_968 : decode cL_law 968 = .ok (.iconst 2, 1) := by decide +kernel
theorem dL_law_969 : decode cL_law 969 = .ok (.iadd, 1) := by decide +kernel
theorem dL_law_970 : decode cL_law 970 = .ok (.iaload, 1) := by decide +kernel
theorem dL_law_971 : decode cL_law 971 = .ok (.aload_n 0, 1) := by decide +kernel
theorem dL_law_972 : decode cL_law 972 = .ok (.iload_n 3, 1) := by decide +kernel
theorem dL_law_973 : decode cL_law 973 = .ok (.iconst 3, 1) := by decide +kernel
theorem dL_law_974 : decode cL_law 974 = .ok (.iadd, 1) := by decide +kernel
theorem dL_law_975 : decode cL_law 975 = .ok (.iaload, 1) := by decide +kernel
theorem dL_law_976 : decode cL_law 976 = .ok (.invokevirtual 124, 3) := by decide +kernel
theorem dL_law_979 : decode cL_law 979 = .ok (.if_icmp .eq 154, 3) := by decide +kernel
theorem dL_law_982 : decode cL_law 982 = .ok (.iconst 0, 1) := by decide +kernel
theorem dL_law_983 : decode cL_law 983 = .ok (.ireturn, 1) := by decide +kernel
theorem dL_law_984 : decode cL_law 984 = .ok (.aload_n 1, 1) := by decide +kernel
theorem dL_law_985 : decode cL_law 985 = .ok (.aload_n 0, 1) := by decide +kernel
theorem dL_law_986 : decode cL_law 986 = .ok (.iload_n 3, 1) := by decide +kernel
theorem dL_law_987 : decode cL_law 987 = .ok (.iconst 1, 1) := by decide +kernel
theorem dL_law_988 : decode cL_law 988 = .ok (.iadd, 1) := by decide +kernel
theorem dL_law_989 : decode cL_law 989 = .ok (.iaload, 1) := by decide +kernel
theorem dL_law_990 : decode cL_law 990 = .ok (.aload_n 0, 1) := by decide +kernel
theorem dL_law_991 : decode cL_law 991 = .ok (.iload_n 3, 1) := by decide +kernel
theorem dL_law_992 : decode cL_law 992 = .ok (.iconst 2, 1) := by decide +kernel
theorem dL_law_993 : decode cL_law 993 = .ok (.iadd, 1) := by decide +kernel
theorem dL_law_994 : decode cL_law 994 = .ok (.iaload, 1) := by decide +kernel
theorem dL_law_995 : decode cL_law 995 = .ok (.aload_n 0, 1) := by decide +kernel
theorem dL_law_996 : decode cL_law 996 = .ok (.iload_n 3, 1) := by decide +kernel
theorem dL_law_997 : decode cL_law 997 = .ok (.iconst 3, 1) := by decide +kernel
theorem dL_law_998 : decode cL_law 998 = .ok (.iadd, 1) := by decide +kernel
theorem dL_law_999 : decode cL_law 999 = .ok (.iaload, 1) := by decide +kernel
theorem dL_law_1000 : decode cL_law 1000 = .ok (.aload_n 0, 1) := by decide +kernel
theorem dL_law_1001 : decode cL_law 1001 = .ok (.iload_n 3, 1) := by decide +kernel
theorem dL_law_1002 : decode cL_law 1002 = .ok (.iconst 4, 1) := by decide +kernel
theorem dL_law_1003 : decode cL_law 1003 = .ok (.iadd, 1) := by decide +kernel
theorem dL_law_1004 : decode cL_law 1004 = .ok (.iaload, 1) := by decide +kernel
theorem dL_law_1005 : decode cL_law 1005 = .ok (.aload_n 0, 1) := by decide +kernel
theorem dL_law_1006 : decode cL_law 1006 = .ok (.iload_n 3, 1) := by decide +kernel
theorem dL_law_1007 : decode cL_law 1007 = .ok (.iconst 5, 1) := by decide +kernel
theorem dL_law_1008 : decode cL_law 1008 = .ok (.iadd, 1) := by decide +kernel
theorem dL_law_1009 : decode cL_law 1009 = .ok (.iaload, 1) := by decide +kernel
theorem dL_law_1010 : decode cL_law 1010 = .ok (.invokevirtual 125, 3) := by decide +kernel
theorem dL_law_1013 : decode cL_law 1013 = .ok (.aload_n 2, 1) := by decide +kernel
theorem dL_law_1014 : decode cL_law 1014 = .ok (.aload_n 0, 1) := by decide +kernel
theorem dL_law_1015 : decode cL_law 1015 = .ok (.iload_n 3, 1) := by decide +kernel
theorem dL_law_1016 : decode cL_law 1016 = .ok (.iconst 1, 1) := by decide +kernel
theorem dL_law_1017 : decode cL_law 1017 = .ok (.iadd, 1) := by decide +kernel
theorem dL_law_1018 : decode cL_law 1018 = .ok (.iaload, 1) := by decide +kernel
theorem dL_law_1019 : decode cL_law 1019 = .ok (.aload_n 0, 1) := by decide +kernel
theorem dL_law_1020 : decode cL_law 1020 = .ok (.iload_n 3, 1) := by decide +kernel
theorem dL_law_1021 : decode cL_law 1021 = .ok (.iconst 2, 1) := by decide +kernel
theorem dL_law_1022 : decode cL_law 1022 = .ok (.iadd, 1) := by decide +kernel
theorem dL_law_1023 : decode cL_law 1023 = .ok (.iaload, 1) := by decide +kernel
theorem dL_law_1024 : decode cL_law 1024 = .ok (.aload_n 0, 1) := by decide +kernel
theorem dL_law_1025 : decode cL_law 1025 = .ok (.iload_n 3, 1) := by decide +kernel
theorem dL_law_1026 : decode cL_law 1026 = .ok (.iconst 3, 1) := by decide +kernel
theorem dL_law_1027 : decode cL_law 1027 = .ok (.iadd, 1) := by decide +kernel
theorem dL_law_1028 : decode cL_law 1028 = .ok (.iaload, 1) := by decide +kernel
theorem dL_law_1029 : decode cL_law 1029 = .ok (.aload_n 0, 1) := by decide +kernel
theorem dL_law_1030 : decode cL_law 1030 = .ok (.iload_n 3, 1) := by decide +kernel
theorem dL_law_1031 : decode cL_law 1031 = .ok (.iconst 4, 1) := by decide +kernel
theorem dL_law_1032 : decode cL_law 1032 = .ok (.iadd, 1) := by decide +kernel
theorem dL_law_1033 : decode cL_law 1033 = .ok (.iaload, 1) := by decide +kernel
theorem dL_law_1034 : decode cL_law 1034 = .ok (.aload_n 0, 1) := by decide +kernel
theorem dL_law_1035 : decode cL_law 1035 = .ok (.iload_n 3, 1) := by decide +kernel
theorem dL_law_1036 : decode cL_law 1036 = .ok (.iconst 5, 1) := by decide +kernel
theorem dL_law_1037 : decode cL_law 1037 = .ok (.iadd, 1) := by decide +kernel
theorem dL_law_1038 : decode cL_law 1038 = .ok (.iaload, 1) := by decide +kernel
theorem dL_law_1039 : decode cL_law 1039 = .ok (.invokevirtual 129, 3) := by decide +kernel
theorem dL_law_1042 : decode cL_law 1042 = .ok (.if_icmp .eq 91, 3) := by decide +kernel
theorem dL_law_1045 : decode cL_law 1045 = .ok (.iconst 0, 1) := by decide +kernel
theorem dL_law_1046 : decode cL_law 1046 = .ok (.ireturn, 1) := by decide +kernel
theorem dL_law_1047 : decode cL_law 1047 = .ok (.aload_n 1, 1) := by decide +kernel
theorem dL_law_1048 : decode cL_law 1048 = .ok (.aload_n 0, 1) := by decide +kernel
theorem dL_law_1049 : decode cL_law 1049 = .ok (.iload_n 3, 1) := by decide +kernel
theorem dL_law_1050 : decode cL_law 1050 = .ok (.iconst 1, 1) := by decide +kernel
theorem dL_law_1051 : decode cL_law 1051 = .ok (.iadd, 1) := by decide +kernel
theorem dL_law_1052 : decode cL_law 1052 = .ok (.iaload, 1) := by decide +kernel
theorem dL_law_1053 : decode cL_law 1053 = .ok (.aload_n 0, 1) := by decide +kernel
theorem dL_law_1054 : decode cL_law 1054 = .ok (.iload_n 3, 1) := by decide +kernel
theorem dL_law_1055 : decode cL_law 1055 = .ok (.iconst 2, 1) := by decide +kernel
theorem dL_law_1056 : decode cL_law 1056 = .ok (.iadd, 1) := by decide +kernel
theorem dL_law_1057 : decode cL_law 1057 = .ok (.iaload, 1) := by decide +kernel
theorem dL_law_1058 : decode cL_law 1058 = .ok (.aload_n 0, 1) := by decide +kernel
theorem dL_law_1059 : decode cL_law 1059 = .ok (.iload_n 3, 1) := by decide +kernel
theorem dL_law_1060 : decode cL_law 1060 = .ok (.iconst 3, 1) := by decide +kernel
theorem dL_law_1061 : decode cL_law 1061 = .ok (.iadd, 1) := by decide +kernel
theorem dL_law_1062 : decode cL_law 1062 = .ok (.iaload, 1) := by decide +kernel
theorem dL_law_1063 : decode cL_law 1063 = .ok (.aload_n 0, 1) := by decide +kernel
theorem dL_law_1064 : decode cL_law 1064 = .ok (.iload_n 3, 1) := by decide +kernel
theorem dL_law_1065 : decode cL_law 1065 = .ok (.iconst 4, 1) := by decide +kernel
theorem dL_law_1066 : decode cL_law 1066 = .ok (.iadd, 1) := by decide +kernel
theorem dL_law_1067 : decode cL_law 1067 = .ok (.iaload, 1) := by decide +kernel
theorem dL_law_1068 : decode cL_law 1068 = .ok (.invokevirtual 130, 3) := by decide +kernel
theorem dL_law_1071 : decode cL_law 1071 = .ok (.aload_n 2, 1) := by decide +kernel
theorem dL_law_1072 : decode cL_law 1072 = .ok (.aload_n 0, 1) := by decide +kernel
theorem dL_law_1073 : decode cL_law 1073 = .ok (.iload_n 3, 1) := by decide +kernel
theorem dL_law_1074 : decode cL_law 1074 = .ok (.iconst 1, 1) := by decide +kernel
theorem dL_law_1075 : decode cL_law 1075 = .ok (.iadd, 1) := by decide +kernel
theorem dL_law_1076 : decode cL_law 1076 = .ok (.iaload, 1) := by decide +kernel
theorem dL_law_1077 : decode cL_law 1077 = .ok (.aload_n 0, 1) := by decide +kernel
theorem dL_law_1078 : decode cL_law 1078 = .ok (.iload_n 3, 1) := by decide +kernel
theorem dL_law_1079 : decode cL_law 1079 = .ok (.iconst 2, 1) := by decide +kernel
theorem dL_law_1080 : decode cL_law 1080 = .ok (.iadd, 1) := by decide +kernel
theorem dL_law_1081 : decode cL_law 1081 = .ok (.iaload, 1) := by decide +kernel
theorem dL_law_1082 : decode cL_law 1082 = .ok (.aload_n 0, 1) := by decide +kernel
theorem dL_law_1083 : decode cL_law 1083 = .ok (.iload_n 3, 1) := by decide +kernel
theorem dL_law_1084 : decode cL_law 1084 = .ok (.iconst 3, 1) := by decide +kernel
theorem dL_law_1085 : decode cL_law 1085 = .ok (.iadd, 1) := by decide +kernel
theorem dL_law_1086 : decode cL_law 1086 = .ok (.iaload, 1) := by decide +kernel
theorem dL_law_1087 : decode cL_law 1087 = .ok (.aload_n 0, 1) := by decide +kernel
theorem dL_law_1088 : decode cL_law 1088 = .ok (.iload_n 3, 1) := by decide +kernel
theorem dL_law_1089 : decode cL_law 1089 = .ok (.iconst 4, 1) := by decide +kernel
theorem dL_law_1090 : decode cL_law 1090 = .ok (.iadd, 1) := by decide +kernel
theorem dL_law_1091 : decode cL_law 1091 = .ok (.iaload, 1) := by decide +kernel
theorem dL_law_1092 : decode cL_law 1092 = .ok (.invokevirtual 134, 3) := by decide +kernel
theorem dL_law_1095 : decode cL_law 1095 = .ok (.if_icmp .eq 38, 3) := by decide +kernel
theorem dL_law_1098 : decode cL_law 1098 = .ok (.iconst 0, 1) := by decide +kernel
theorem dL_law_1099 : decode cL_law 1099 = .ok (.ireturn, 1) := by decide +kernel
theorem dL_law_1100 : decode cL_law 1100 = .ok (.aload_n 1, 1) := by decide +kernel
theorem dL_law_1101 : decode cL_law 1101 = .ok (.aload_n 0, 1) := by decide +kernel
theorem dL_law_1102 : decode cL_law 1102 = .ok (.iload_n 3, 1) := by decide +kernel
theorem dL_law_1103 : decode cL_law 1103 = .ok (.iconst 1, 1) := by decide +kernel
theorem dL_law_1104 : decode cL_law 1104 = .ok (.iadd, 1) := by decide +kernel
theorem dL_law_1105 : decode cL_law 1105 = .ok (.iaload, 1) := by decide +kernel
theorem dL_law_1106 : decode cL_law 1106 = .ok (.aload_n 0, 1) := by decide +kernel
theorem dL_law_1107 : decode cL_law 1107 = .ok (.iload_n 3, 1) := by decide +kernel
theorem dL_law_1108 : decode cL_law 1108 = .ok (.iconst 2, 1) := by decide +kernel
theorem dL_law_1109 : decode cL_law 1109 = .ok (.iadd, 1) := by decide +kernel
theorem dL_law_1110 : decode cL_law 1110 = .ok (.iaload, 1) := by decide +kernel
theorem dL_law_1111 : decode cL_law 1111 = .ok (.invokevirtual 135, 3) := by decide +kernel
theorem dL_law_1114 : decode cL_law 1114 = .ok (.aload_n 2, 1) := by decide +kernel
theorem dL_law_1115 : decode cL_law 1115 = .ok (.aload_n 0, 1) := by decide +kernel
theorem dL_law_1116 : decode cL_law 1116 = .ok (.iload_n 3, 1) := by decide +kernel
theorem dL_law_1117 : decode cL_law 1117 = .ok (.iconst 1, 1) := by decide +kernel
theorem dL_law_1118 : decode cL_law 1118 = .ok (.iadd, 1) := by decide +kernel
theorem dL_law_1119 : decode cL_law 1119 = .ok (.iaload, 1) := by decide +kernel
theorem dL_law_1120 : decode cL_law 1120 = .ok (.aload_n 0, 1) := by decide +kernel
theorem dL_law_1121 : decode cL_law 1121 = .ok (.iload_n 3, 1) := by decide +kernel
theorem dL_law_1122 : decode cL_law 1122 = .ok (.iconst 2, 1) := by decide +kernel
theorem dL_law_1123 : decode cL_law 1123 = .ok (.iadd, 1) := by decide +kernel
theorem dL_law_1124 : decode cL_law 1124 = .ok (.iaload, 1) := by decide +kernel
theorem dL_law_1125 : decode cL_law 1125 = .ok (.invokevirtual 138, 3) := by decide +kernel
theorem dL_law_1128 : decode cL_law 1128 = .ok (.if_icmp .eq 5, 3) := by decide +kernel
theorem dL_law_1131 : decode cL_law 1131 = .ok (.iconst 0, 1) := by decide +kernel
theorem dL_law_1132 : decode cL_law 1132 = .ok (.ireturn, 1) := by decide +kernel
theorem dL_law_1133 : decode cL_law 1133 = .ok (.iinc 3 6, 3) := by decide +kernel
theorem dL_law_1136 : decode cL_law 1136 = .ok (.goto (-1118), 3) := by decide +kernel
theorem dL_law_1139 : decode cL_law 1139 = .ok (.iconst 1, 1) := by decide +kernel
theorem dL_law_1140 : decode cL_law 1140 = .ok (.ireturn, 1) := by decide +kernel
