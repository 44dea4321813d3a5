theorem zd_X_init_0 : decode zb_X_init 0 = .ok (.aload_n 0, 1) := by decide +kernel
theorem zd_X_init_1 : decode zb_X_init 1 = .ok (.invokespecial 1, 3) := by decide +kernel
theorem zd_X_init_4 : decode zb_X_init 4 = .ok (.aload_n 0, 1) := by decide +kernel
theorem zd_X_init_5 : decode zb_X_init 5 = .ok (.iconst 2, 1) := by decide +kernel
theorem zd_X_init_6 : decode zb_X_init 6 = .ok (.newarray .int, 2) := by decide +kernel
theorem zd_X_init_8 : decode zb_X_init 8 = .ok (.dup, 1) := by decide +kernel
theorem zd_X_init_9 : decode zb_X_init 9 = .ok (.iconst 0, 1) := by decide +kernel
theorem zd_X_init_10 : decode zb_X_init 10 = .ok (.iconst 1, 1) := by decide +kernel
theorem zd_X_init_11 : decode zb_X_init 11 = .ok (.iastore, 1) := by decide +kernel
theorem zd_X_init_12 : decode zb_X_init 12 = .ok (.dup, 1) := by decide +kernel
theorem zd_X_init_13 : decode zb_X_init 13 = .ok (.iconst 1, 1) := by decide +kernel
theorem zd_X_init_14 : decode zb_X_init 14 = .ok (.iconst 1, 1) := by decide +kernel
theorem zd_X_init_15 : decode zb_X_init 15 = .ok (.iastore, 1) := by decide +kernel
theorem zd_X_init_16 : decode zb_X_init 16 = .ok (.putfield 7, 3) := by decide +kernel
theorem zd_X_init_19 : decode zb_X_init 19 = .ok (.aload_n 0, 1) := by decide +kernel
theorem zd_X_init_20 : decode zb_X_init 20 = .ok (.invokestatic 13, 3) := by decide +kernel
theorem zd_X_init_23 : decode zb_X_init 23 = .ok (.putfield 17, 3) := by decide +kernel
theorem zd_X_init_26 : decode zb_X_init 26 = .ok (.aload_n 0, 1) := by decide +kernel
theorem zd_X_init_27 : decode zb_X_init 27 = .ok (.bipush 12, 2) := by decide +kernel
theorem zd_X_init_29 : decode zb_X_init 29 = .ok (.anewarray 21, 3) := by decide +kernel
theorem zd_X_init_32 : decode zb_X_init 32 = .ok (.putfield 23, 3) := by decide +kernel
theorem zd_X_init_35 : decode zb_X_init 35 = .ok (.aload_n 0, 1) := by decide +kernel
theorem zd_X_init_36 : decode zb_X_init 36 = .ok (.bipush 100, 2) := by decide +kernel
theorem zd_X_init_38 : decode zb_X_init 38 = .ok (.anewarray 27, 3) := by decide +kernel
theorem zd_X_init_41 : decode zb_X_init 41 = .ok (.putfield 29, 3) := by decide +kernel
theorem zd_X_init_44 : decode zb_X_init 44 = .ok (.aload_n 0, 1) := by decide +kernel
theorem zd_X_init_45 : decode zb_X_init 45 = .ok (.iconst 0, 1) := by decide +kernel
theorem zd_X_init_46 : decode zb_X_init 46 = .ok (.putfield 33, 3) := by decide +kernel
theorem zd_X_init_49 : decode zb_X_init 49 = .ok (.aload_n 0, 1) := by decide +kernel
theorem zd_X_init_50 : decode zb_X_init 50 = .ok (.iconst 0, 1) := by decide +kernel
theorem zd_X_init_51 : decode zb_X_init 51 = .ok (.putfield 37, 3) := by decide +kernel
theorem zd_X_init_54 : decode zb_X_init 54 = .ok (.aload_n 0, 1) := by decide +kernel
theorem zd_X_init_55 : decode zb_X_init 55 = .ok (.iconst 0, 1) := by decide +kernel
theorem zd_X_init_56 : decode zb_X_init 56 = .ok (.putfield 40, 3) := by decide +kernel
theorem zd_X_init_59 : decode zb_X_init 59 = .ok (.aload_n 0, 1) := by decide +kernel
theorem zd_X_init_60 : decode zb_X_init 60 = .ok (.iload_n 1, 1) := by decide +kernel
theorem zd_X_init_61 : decode zb_X_init 61 = .ok (.iconst 1, 1) := by decide +kernel
theorem zd_X_init_62 : decode zb_X_init 62 = .ok (.bipush 8, 2) := by decide +kernel
theorem zd_X_init_64 : decode zb_X_init 64 = .ok (.invokestatic 43, 3) := by decide +kernel
theorem zd_X_init_67 : decode zb_X_init 67 = .ok (.putfield 47, 3) := by decide +kernel
theorem zd_X_init_70 : decode zb_X_init 70 = .ok (.aload_n 0, 1) := by decide +kernel
theorem zd_X_init_71 : decode zb_X_init 71 = .ok (.iload_n 2, 1) := by decide +kernel
theorem zd_X_init_72 : decode zb_X_init 72 = .ok (.iconst 4, 1) := by decide +kernel
theorem zd_X_init_73 : decode zb_X_init 73 = .ok (.bipush 40, 2) := by decide +kernel
theorem zd_X_init_75 : decode zb_X_init 75 = .ok (.invokestatic 43, 3) := by decide +kernel
theorem zd_X_init_78 : decode zb_X_init 78 = .ok (.putfield 50, 3) := by decide +kernel
theorem zd_X_init_81 : decode zb_X_init 81 = .ok (.aload_n 0, 1) := by decide +kernel
theorem zd_X_init_82 : decode zb_X_init 82 = .ok (.iload_n 3, 1) := by decide +kernel
theorem zd_X_init_83 : decode zb_X_init 83 = .ok (.iconst 0, 1) := by decide +kernel
theorem zd_X_init_84 : decode zb_X_init 84 = .ok (.bipush 40, 2) := by decide +kernel
theorem zd_X_init_86 : decode zb_X_init 86 = .ok (.invokestatic 43, 3) := by decide +kernel
theorem zd_X_init_89 : decode zb_X_init 89 = .ok (.putfield 53, 3) := by decide +kernel
theorem zd_X_init_92 : decode zb_X_init 92 = .ok (.aload_n 0, 1) := by decide +kernel
theorem zd_X_init_93 : decode zb_X_init 93 = .ok (.iload 4, 2) := by decide +kernel
theorem zd_X_init_95 : decode zb_X_init 95 = .ok (.iconst 1, 1) := by decide +kernel
theorem zd_X_init_96 : decode zb_X_init 96 = .ok (.bipush 40, 2) := by decide +kernel
theorem zd_X_init_98 : decode zb_X_init 98 = .ok (.invokestatic 43, 3) := by decide +kernel
theorem zd_X_init_101 : decode zb_X_init 101 = .ok (.putfield 56, 3) := by decide +kernel
theorem zd_X_init_104 : decode zb_X_init 104 = .ok (.return_, 1) := by decide +kernel
theorem zd_X_makePorts_0 : decode zb_X_makePorts 0 = .ok (.bipush 32, 2) := by decide +kernel
theorem zd_X_makePorts_2 : decode zb_X_makePorts 2 = .ok (.anewarray 107, 3) := by decide +kernel
theorem zd_X_makePorts_5 : decode zb_X_makePorts 5 = .ok (.astore_n 0, 1) := by decide +kernel
theorem zd_X_makePorts_6 : decode zb_X_makePorts 6 = .ok (.iconst 0, 1) := by decide +kernel
theorem zd_X_makePorts_7 : decode zb_X_makePorts 7 = .ok (.istore_n 1, 1) := by decide +kernel
theorem zd_X_makePorts_8 : decode zb_X_makePorts 8 = .ok (.iconst 0, 1) := by decide +kernel
theorem zd_X_makePorts_9 : decode zb_X_makePorts 9 = .ok (.istore_n 2, 1) := by decide +kernel
theorem zd_X_makePorts_10 : decode zb_X_makePorts 10 = .ok (.iload_n 2, 1) := by decide +kernel
theorem zd_X_makePorts_11 : decode zb_X_makePorts 11 = .ok (.bipush 14, 2) := by decide +kernel
theorem zd_X_makePorts_13 : decode zb_X_makePorts 13 = .ok (.if_icmp .ge 52, 3) := by decide +kernel
theorem zd_X_makePorts_16 : decode zb_X_makePorts 16 = .ok (.iconst 0, 1) := by decide +kernel
theorem zd_X_makePorts_17 : decode zb_X_makePorts 17 = .ok (.istore_n 3, 1) := by decide +kernel
theorem zd_X_makePorts_18 : decode zb_X_makePorts 18 = .ok (.iload_n 3, 1) := by decide +kernel
theorem zd_X_makePorts_19 : decode zb_X_makePorts 19 = .ok (.bipush 14, 2) := by decide +kernel
theorem zd_X_makePorts_21 : decode zb_X_makePorts 21 = .ok (.if_icmp .ge 38, 3) := by decide +kernel
theorem zd_X_makePorts_24 : decode zb_X_makePorts 24 = .ok (.iload_n 3, 1) := by decide +kernel
theorem zd_X_makePorts_25 : decode zb_X_makePorts 25 = .ok (.iload_n 2, 1) := by decide +kernel
theorem zd_X_makePorts_26 : decode zb_X_makePorts 26 = .ok (.invokestatic 154, 3) := by decide +kernel
theorem zd_X_makePorts_29 : decode zb_X_makePorts 29 = .ok (.ifCond .eq 24, 3) := by decide +kernel
theorem zd_X_makePorts_32 : decode zb_X_makePorts 32 = .ok (.iload_n 1, 1) := by decide +kernel
theorem zd_X_makePorts_33 : decode zb_X_makePorts 33 = .ok (.bipush 32, 2) := by decide +kernel
theorem zd_X_makePorts_35 : decode zb_X_makePorts 35 = .ok (.if_icmp .ge 18, 3) := by decide +kernel
theorem zd_X_makePorts_38 : decode zb_X_makePorts 38 = .ok (.aload_n 0, 1) := by decide +kernel
theorem zd_X_makePorts_39 : decode zb_X_makePorts 39 = .ok (.iload_n 1, 1) := by decide +kernel
theorem zd_X_makePorts_40 : decode zb_X_makePorts 40 = .ok (.new 107, 3) := by decide +kernel
theorem zd_X_makePorts_43 : decode zb_X_makePorts 43 = .ok (.dup, 1) := by decide +kernel
theorem zd_X_makePorts_44 : decode zb_X_makePorts 44 = .ok (.iload_n 3, 1) := by decide +kernel
theorem zd_X_makePorts_45 : decode zb_X_makePorts 45 = .ok (.iload_n 2, 1) := by decide +kernel
theorem zd_X_makePorts_46 : decode zb_X_makePorts 46 = .ok (.invokespecial 158, 3) := by decide +kernel
theorem zd_X_makePorts_49 : decode zb_X_makePorts 49 = .ok (.aastore, 1) := by decide +kernel
theorem zd_X_makePorts_50 : decode zb_X_makePorts 50 = .ok (.iinc 1 1, 3) := by decide +kernel
theorem zd_X_makePorts_53 : decode zb_X_makePorts 53 = .ok (.iinc 3 1, 3) := by decide +kernel
theorem zd_X_makePorts_56 : decode zb_X_makePorts 56 = .ok (.goto (-38), 3) := by decide +kernel
theorem zd_X_makePorts_59 : decode zb_X_makePorts 59 = .ok (.iinc 2 1, 3) := by decide +kernel
theorem zd_X_makePorts_62 : decode zb_X_makePorts 62 = .ok (.goto (-52), 3) := by decide +kernel
theorem zd_X_makePorts_65 : decode zb_X_makePorts 65 = .ok (.aload_n 0, 1) := by decide +kernel
theorem zd_X_makePorts_66 : decode zb_X_makePorts 66 = .ok (.areturn, 1) := by decide +kernel
theorem zd_X_areLinked_0 : decode zb_X_areLinked 0 = .ok (.iload_n 0, 1) := by decide +kernel
theorem zd_X_areLinked_1 : decode zb_X_areLinked 1 = .ok (.iload_n 1, 1) := by decide +kernel
theorem zd_X_areLinked_2 : decode zb_X_areLinked 2 = .ok (.invokestatic 141, 3) := by decide +kernel
theorem zd_X_areLinked_5 : decode zb_X_areLinked 5 = .ok (.istore_n 2, 1) := by decide +kernel
theorem zd_X_areLinked_6 : decode zb_X_areLinked 6 = .ok (.iload_n 0, 1) := by decide +kernel
theorem zd_X_areLinked_7 : decode zb_X_areLinked 7 = .ok (.iload_n 1, 1) := by decide +kernel
theorem zd_X_areLinked_8 : decode zb_X_areLinked 8 = .ok (.invokestatic 147, 3) := by decide +kernel
theorem zd_X_areLinked_11 : decode zb_X_areLinked 11 = .ok (.istore_n 3, 1) := by decide +kernel
theorem zd_X_areLinked_12 : decode zb_X_areLinked 12 = .ok (.iload_n 2, 1) := by decide +kernel
theorem zd_X_areLinked_13 : decode zb_X_areLinked 13 = .ok (.invokestatic 59, 3) := by decide +kernel
theorem zd_X_areLinked_16 : decode zb_X_areLinked 16 = .ok (.ifCond .eq 19, 3) := by decide +kernel
theorem zd_X_areLinked_19 : decode zb_X_areLinked 19 = .ok (.iload_n 3, 1) := by decide +kernel
theorem zd_X_areLinked_20 : decode zb_X_areLinked 20 = .ok (.iload_n 2, 1) := by decide +kernel
theorem zd_X_areLinked_21 : decode zb_X_areLinked 21 = .ok (.invokestatic 150, 3) := by decide +kernel
theorem zd_X_areLinked_24 : decode zb_X_areLinked 24 = .ok (.if_icmp .ne 7, 3) := by decide +kernel
theorem zd_X_areLinked_27 : decode zb_X_areLinked 27 = .ok (.iconst 1, 1) := by decide +kernel
theorem zd_X_areLinked_28 : decode zb_X_areLinked 28 = .ok (.goto 24, 3) := by decide +kernel
theorem zd_X_areLinked_31 : decode zb_X_areLinked 31 = .ok (.iconst 0, 1) := by decide +kernel
theorem zd_X_areLinked_32 : decode zb_X_areLinked 32 = .ok (.goto 20, 3) := by decide +kernel
theorem zd_X_areLinked_35 : decode zb_X_areLinked 35 = .ok (.iload_n 2, 1) := by decide +kernel
theorem zd_X_areLinked_36 : decode zb_X_areLinked 36 = .ok (.bipush 12, 2) := by decide +kernel
theorem zd_X_areLinked_38 : decode zb_X_areLinked 38 = .ok (.if_icmp .ge 13, 3) := by decide +kernel
theorem zd_X_areLinked_41 : decode zb_X_areLinked 41 = .ok (.iload_n 3, 1) := by decide +kernel
theorem zd_X_areLinked_42 : decode zb_X_areLinked 42 = .ok (.bipush 12, 2) := by decide +kernel
theorem zd_X_areLinked_44 : decode zb_X_areLinked 44 = .ok (.if_icmp .lt 7, 3) := by decide +kernel
theorem zd_X_areLinked_47 : decode zb_X_areLinked 47 = .ok (.iconst 1, 1) := by decide +kernel
theorem zd_X_areLinked_48 : decode zb_X_areLinked 48 = .ok (.goto 4, 3) := by decide +kernel
theorem zd_X_areLinked_51 : decode zb_X_areLinked 51 = .ok (.iconst 0, 1) := by decide +kernel
theorem zd_X_areLinked_52 : decode zb_X_areLinked 52 = .ok (.ireturn, 1) := by decide +kernel
theorem zd_X_isHost_0 : decode zb_X_isHost 0 = .ok (.iload_n 0, 1) := by decide +kernel
theorem zd_X_isHost_1 : decode zb_X_isHost 1 = .ok (.ifCond .lt 13, 3) := by decide +kernel
theorem zd_X_isHost_4 : decode zb_X_isHost 4 = .ok (.iload_n 0, 1) := by decide +kernel
theorem zd_X_isHost_5 : decode zb_X_isHost 5 = .ok (.bipush 8, 2) := by decide +kernel
theorem zd_X_isHost_7 : decode zb_X_isHost 7 = .ok (.if_icmp .ge 7, 3) := by decide +kernel
theorem zd_X_isHost_10 : decode zb_X_isHost 10 = .ok (.iconst 1, 1) := by decide +kernel
theorem zd_X_isHost_11 : decode zb_X_isHost 11 = .ok (.goto 4, 3) := by decide +kernel
theorem zd_X_isHost_14 : decode zb_X_isHost 14 = .ok (.iconst 0, 1) := by decide +kernel
theorem zd_X_isHost_15 : decode zb_X_isHost 15 = .ok (.ireturn, 1) := by decide +kernel
theorem zd_X_leafOf_0 : decode zb_X_leafOf 0 = .ok (.bipush 8, 2) := by decide +kernel
theorem zd_X_leafOf_2 : decode zb_X_leafOf 2 = .ok (.iload_n 0, 1) := by decide +kernel
theorem zd_X_leafOf_3 : decode zb_X_leafOf 3 = .ok (.iconst 2, 1) := by decide +kernel
theorem zd_X_leafOf_4 : decode zb_X_leafOf 4 = .ok (.idiv, 1) := by decide +kernel
theorem zd_X_leafOf_5 : decode zb_X_leafOf 5 = .ok (.iadd, 1) := by decide +kernel
theorem zd_X_leafOf_6 : decode zb_X_leafOf 6 = .ok (.ireturn, 1) := by decide +kernel
theorem zd_P_init_0 : decode zb_P_init 0 = .ok (.aload_n 0, 1) := by decide +kernel
theorem zd_P_init_1 : decode zb_P_init 1 = .ok (.invokespecial 1, 3) := by decide +kernel
theorem zd_P_init_4 : decode zb_P_init 4 = .ok (.aload_n 0, 1) := by decide +kernel
theorem zd_P_init_5 : decode zb_P_init 5 = .ok (.iconst 2, 1) := by decide +kernel
theorem zd_P_init_6 : decode zb_P_init 6 = .ok (.anewarray 7, 3) := by decide +kernel
theorem zd_P_init_9 : decode zb_P_init 9 = .ok (.dup, 1) := by decide +kernel
theorem zd_P_init_10 : decode zb_P_init 10 = .ok (.iconst 0, 1) := by decide +kernel
theorem zd_P_init_11 : decode zb_P_init 11 = .ok (.new 7, 3) := by decide +kernel
theorem zd_P_init_14 : decode zb_P_init 14 = .ok (.dup, 1) := by decide +kernel
theorem zd_P_init_15 : decode zb_P_init 15 = .ok (.invokespecial 9, 3) := by decide +kernel
theorem zd_P_init_18 : decode zb_P_init 18 = .ok (.aastore, 1) := by decide +kernel
theorem zd_P_init_19 : decode zb_P_init 19 = .ok (.dup, 1) := by decide +kernel
theorem zd_P_init_20 : decode zb_P_init 20 = .ok (.iconst 1, 1) := by decide +kernel
theorem zd_P_init_21 : decode zb_P_init 21 = .ok (.new 7, 3) := by decide +kernel
theorem zd_P_init_24 : decode zb_P_init 24 = .ok (.dup, 1) := by decide +kernel
theorem zd_P_init_25 : decode zb_P_init 25 = .ok (.invokespecial 9, 3) := by decide +kernel
theorem zd_P_init_28 : decode zb_P_init 28 = .ok (.aastore, 1) := by decide +kernel
theorem zd_P_init_29 : decode zb_P_init 29 = .ok (.putfield 10, 3) := by decide +kernel
theorem zd_P_init_32 : decode zb_P_init 32 = .ok (.aload_n 0, 1) := by decide +kernel
theorem zd_P_init_33 : decode zb_P_init 33 = .ok (.iconst 2, 1) := by decide +kernel
theorem zd_P_init_34 : decode zb_P_init 34 = .ok (.newarray .int, 2) := by decide +kernel
theorem zd_P_init_36 : decode zb_P_init 36 = .ok (.dup, 1) := by decide +kernel
theorem zd_P_init_37 : decode zb_P_init 37 = .ok (.iconst 0, 1) := by decide +kernel
theorem zd_P_init_38 : decode zb_P_init 38 = .ok (.iconst 0, 1) := by decide +kernel
theorem zd_P_init_39 : decode zb_P_init 39 = .ok (.iastore, 1) := by decide +kernel
theorem zd_P_init_40 : decode zb_P_init 40 = .ok (.dup, 1) := by decide +kernel
theorem zd_P_init_41 : decode zb_P_init 41 = .ok (.iconst 1, 1) := by decide +kernel
theorem zd_P_init_42 : decode zb_P_init 42 = .ok (.iconst 0, 1) := by decide +kernel
theorem zd_P_init_43 : decode zb_P_init 43 = .ok (.iastore, 1) := by decide +kernel
theorem zd_P_init_44 : decode zb_P_init 44 = .ok (.putfield 16, 3) := by decide +kernel
theorem zd_P_init_47 : decode zb_P_init 47 = .ok (.aload_n 0, 1) := by decide +kernel
theorem zd_P_init_48 : decode zb_P_init 48 = .ok (.iconst 0, 1) := by decide +kernel
theorem zd_P_init_49 : decode zb_P_init 49 = .ok (.putfield 20, 3) := by decide +kernel
theorem zd_P_init_52 : decode zb_P_init 52 = .ok (.aload_n 0, 1) := by decide +kernel
theorem zd_P_init_53 : decode zb_P_init 53 = .ok (.aconst_null, 1) := by decide +kernel
theorem zd_P_init_54 : decode zb_P_init 54 = .ok (.putfield 24, 3) := by decide +kernel
theorem zd_P_init_57 : decode zb_P_init 57 = .ok (.aload_n 0, 1) := by decide +kernel
theorem zd_P_init_58 : decode zb_P_init 58 = .ok (.new 7, 3) := by decide +kernel
theorem zd_P_init_61 : decode zb_P_init 61 = .ok (.dup, 1) := by decide +kernel
theorem zd_P_init_62 : decode zb_P_init 62 = .ok (.invokespecial 9, 3) := by decide +kernel
theorem zd_P_init_65 : decode zb_P_init 65 = .ok (.putfield 28, 3) := by decide +kernel
theorem zd_P_init_68 : decode zb_P_init 68 = .ok (.aload_n 0, 1) := by decide +kernel
theorem zd_P_init_69 : decode zb_P_init 69 = .ok (.iconst 2, 1) := by decide +kernel
theorem zd_P_init_70 : decode zb_P_init 70 = .ok (.newarray .int, 2) := by decide +kernel
theorem zd_P_init_72 : decode zb_P_init 72 = .ok (.dup, 1) := by decide +kernel
theorem zd_P_init_73 : decode zb_P_init 73 = .ok (.iconst 0, 1) := by decide +kernel
theorem zd_P_init_74 : decode zb_P_init 74 = .ok (.iconst 0, 1) := by decide +kernel
theorem zd_P_init_75 : decode zb_P_init 75 = .ok (.iastore, 1) := by decide +kernel
theorem zd_P_init_76 : decode zb_P_init 76 = .ok (.dup, 1) := by decide +kernel
theorem zd_P_init_77 : decode zb_P_init 77 = .ok (.iconst 1, 1) := by decide +kernel
theorem zd_P_init_78 : decode zb_P_init 78 = .ok (.iconst 0, 1) := by decide +kernel
theorem zd_P_init_79 : decode zb_P_init 79 = .ok (.iastore, 1) := by decide +kernel
theorem zd_P_init_80 : decode zb_P_init 80 = .ok (.putfield 32, 3) := by decide +kernel
theorem zd_P_init_83 : decode zb_P_init 83 = .ok (.aload_n 0, 1) := by decide +kernel
theorem zd_P_init_84 : decode zb_P_init 84 = .ok (.iconst 0, 1) := by decide +kernel
theorem zd_P_init_85 : decode zb_P_init 85 = .ok (.putfield 35, 3) := by decide +kernel
theorem zd_P_init_88 : decode zb_P_init 88 = .ok (.aload_n 0, 1) := by decide +kernel
theorem zd_P_init_89 : decode zb_P_init 89 = .ok (.iconst 0, 1) := by decide +kernel
theorem zd_P_init_90 : decode zb_P_init 90 = .ok (.putfield 39, 3) := by decide +kernel
theorem zd_P_init_93 : decode zb_P_init 93 = .ok (.aload_n 0, 1) := by decide +kernel
theorem zd_P_init_94 : decode zb_P_init 94 = .ok (.iconst 0, 1) := by decide +kernel
theorem zd_P_init_95 : decode zb_P_init 95 = .ok (.putfield 42, 3) := by decide +kernel
theorem zd_P_init_98 : decode zb_P_init 98 = .ok (.aload_n 0, 1) := by decide +kernel
theorem zd_P_init_99 : decode zb_P_init 99 = .ok (.iload_n 1, 1) := by decide +kernel
theorem zd_P_init_100 : decode zb_P_init 100 = .ok (.putfield 45, 3) := by decide +kernel
theorem zd_P_init_103 : decode zb_P_init 103 = .ok (.aload_n 0, 1) := by decide +kernel
theorem zd_P_init_104 : decode zb_P_init 104 = .ok (.iload_n 2, 1) := by decide +kernel
theorem zd_P_init_105 : decode zb_P_init 105 = .ok (.putfield 48, 3) := by decide +kernel
theorem zd_P_init_108 : decode zb_P_init 108 = .ok (.return_, 1) := by decide +kernel
theorem zd_Q_init_0 : decode zb_Q_init 0 = .ok (.aload_n 0, 1) := by decide +kernel
theorem zd_Q_init_1 : decode zb_Q_init 1 = .ok (.invokespecial 1, 3) := by decide +kernel
theorem zd_Q_init_4 : decode zb_Q_init 4 = .ok (.aload_n 0, 1) := by decide +kernel
theorem zd_Q_init_5 : decode zb_Q_init 5 = .ok (.aconst_null, 1) := by decide +kernel
theorem zd_Q_init_6 : decode zb_Q_init 6 = .ok (.putfield 7, 3) := by decide +kernel
theorem zd_Q_init_9 : decode zb_Q_init 9 = .ok (.aload_n 0, 1) := by decide +kernel
theorem zd_Q_init_10 : decode zb_Q_init 10 = .ok (.aconst_null, 1) := by decide +kernel
theorem zd_Q_init_11 : decode zb_Q_init 11 = .ok (.putfield 13, 3) := by decide +kernel
theorem zd_Q_init_14 : decode zb_Q_init 14 = .ok (.aload_n 0, 1) := by decide +kernel
theorem zd_Q_init_15 : decode zb_Q_init 15 = .ok (.iconst 0, 1) := by decide +kernel
theorem zd_Q_init_16 : decode zb_Q_init 16 = .ok (.putfield 16, 3) := by decide +kernel
theorem zd_Q_init_19 : decode zb_Q_init 19 = .ok (.return_, 1) := by decide +kernel
theorem zd_X_nearest_0 : decode zb_X_nearest 0 = .ok (.iload_n 1, 1) := by decide +kernel
theorem zd_X_nearest_1 : decode zb_X_nearest 1 = .ok (.iload_n 2, 1) := by decide +kernel
theorem zd_X_nearest_2 : decode zb_X_nearest 2 = .ok (.iload_n 0, 1) := by decide +kernel
theorem zd_X_nearest_3 : decode zb_X_nearest 3 = .ok (.invokestatic 141, 3) := by decide +kernel
theorem zd_X_nearest_6 : decode zb_X_nearest 6 = .ok (.invokestatic 147, 3) := by decide +kernel
theorem zd_X_nearest_9 : decode zb_X_nearest 9 = .ok (.ireturn, 1) := by decide +kernel
theorem zd_X_flow_0 : decode zb_X_flow 0 = .ok (.iload_n 1, 1) := by decide +kernel
theorem zd_X_flow_1 : decode zb_X_flow 1 = .ok (.invokestatic 59, 3) := by decide +kernel
theorem zd_X_flow_4 : decode zb_X_flow 4 = .ok (.ifCond .eq 15, 3) := by decide +kernel
theorem zd_X_flow_7 : decode zb_X_flow 7 = .ok (.iload_n 2, 1) := by decide +kernel
theorem zd_X_flow_8 : decode zb_X_flow 8 = .ok (.invokestatic 59, 3) := by decide +kernel
theorem zd_X_flow_11 : decode zb_X_flow 11 = .ok (.ifCond .eq 8, 3) := by decide +kernel
theorem zd_X_flow_14 : decode zb_X_flow 14 = .ok (.iload_n 1, 1) := by decide +kernel
theorem zd_X_flow_15 : decode zb_X_flow 15 = .ok (.iload_n 2, 1) := by decide +kernel
theorem zd_X_flow_16 : decode zb_X_flow 16 = .ok (.if_icmp .ne 5, 3) := by decide +kernel
theorem zd_X_flow_19 : decode zb_X_flow 19 = .ok (.iconst (-1), 1) := by decide +kernel
theorem zd_X_flow_20 : decode zb_X_flow 20 = .ok (.ireturn, 1) := by decide +kernel
theorem zd_X_flow_21 : decode zb_X_flow 21 = .ok (.iload_n 3, 1) := by decide +kernel
theorem zd_X_flow_22 : decode zb_X_flow 22 = .ok (.invokestatic 63, 3) := by decide +kernel
theorem zd_X_flow_25 : decode zb_X_flow 25 = .ok (.ifCond .eq 12, 3) := by decide +kernel
theorem zd_X_flow_28 : decode zb_X_flow 28 = .ok (.aload_n 0, 1) := by decide +kernel
theorem zd_X_flow_29 : decode zb_X_flow 29 = .ok (.getfield 33, 3) := by decide +kernel
theorem zd_X_flow_32 : decode zb_X_flow 32 = .ok (.bipush 12, 2) := by decide +kernel
theorem zd_X_flow_34 : decode zb_X_flow 34 = .ok (.if_icmp .lt 5, 3) := by decide +kernel
theorem zd_X_flow_37 : decode zb_X_flow 37 = .ok (.iconst (-1), 1) := by decide +kernel
theorem zd_X_flow_38 : decode zb_X_flow 38 = .ok (.ireturn, 1) := by decide +kernel
theorem zd_X_flow_39 : decode zb_X_flow 39 = .ok (.aload_n 0, 1) := by decide +kernel
theorem zd_X_flow_40 : decode zb_X_flow 40 = .ok (.getfield 33, 3) := by decide +kernel
theorem zd_X_flow_43 : decode zb_X_flow 43 = .ok (.istore 4, 2) := by decide +kernel
theorem zd_X_flow_45 : decode zb_X_flow 45 = .ok (.aload_n 0, 1) := by decide +kernel
theorem zd_X_flow_46 : decode zb_X_flow 46 = .ok (.getfield 23, 3) := by decide +kernel
theorem zd_X_flow_49 : decode zb_X_flow 49 = .ok (.iload 4, 2) := by decide +kernel
theorem zd_X_flow_51 : decode zb_X_flow 51 = .ok (.new 21, 3) := by decide +kernel
theorem zd_X_flow_54 : decode zb_X_flow 54 = .ok (.dup, 1) := by decide +kernel
theorem zd_X_flow_55 : decode zb_X_flow 55 = .ok (.iload_n 3, 1) := by decide +kernel
theorem zd_X_flow_56 : decode zb_X_flow 56 = .ok (.aload_n 0, 1) := by decide +kernel
theorem zd_X_flow_57 : decode zb_X_flow 57 = .ok (.iload 4, 2) := by decide +kernel
theorem zd_X_flow_59 : decode zb_X_flow 59 = .ok (.iload_n 1, 1) := by decide +kernel
theorem zd_X_flow_60 : decode zb_X_flow 60 = .ok (.iload_n 2, 1) := by decide +kernel
theorem zd_X_flow_61 : decode zb_X_flow 61 = .ok (.invokevirtual 66, 3) := by decide +kernel
theorem zd_X_flow_64 : decode zb_X_flow 64 = .ok (.invokespecial 70, 3) := by decide +kernel
theorem zd_X_flow_67 : decode zb_X_flow 67 = .ok (.aastore, 1) := by decide +kernel
theorem zd_X_flow_68 : decode zb_X_flow 68 = .ok (.aload_n 0, 1) := by decide +kernel
theorem zd_X_flow_69 : decode zb_X_flow 69 = .ok (.dup, 1) := by decide +kernel
theorem zd_X_flow_70 : decode zb_X_flow 70 = .ok (.getfield 33, 3) := by decide +kernel
theorem zd_X_flow_73 : decode zb_X_flow 73 = .ok (.iconst 1, 1) := by decide +kernel
theorem zd_X_flow_74 : decode zb_X_flow 74 = .ok (.iadd, 1) := by decide +kernel
theorem zd_X_flow_75 : decode zb_X_flow 75 = .ok (.putfield 33, 3) := by decide +kernel
theorem zd_X_flow_78 : decode zb_X_flow 78 = .ok (.iload 4, 2) := by decide +kernel
theorem zd_X_flow_80 : decode zb_X_flow 80 = .ok (.ireturn, 1) := by decide +kernel
theorem zd_X_isPriority_0 : decode zb_X_isPriority 0 = .ok (.iload_n 0, 1) := by decide +kernel
theorem zd_X_isPriority_1 : decode zb_X_isPriority 1 = .ok (.ifCond .lt 12, 3) := by decide +kernel
theorem zd_X_isPriority_4 : decode zb_X_isPriority 4 = .ok (.iload_n 0, 1) := by decide +kernel
theorem zd_X_isPriority_5 : decode zb_X_isPriority 5 = .ok (.iconst 2, 1) := by decide +kernel
theorem zd_X_isPriority_6 : decode zb_X_isPriority 6 = .ok (.if_icmp .ge 7, 3) := by decide +kernel
theorem zd_X_isPriority_9 : decode zb_X_isPriority 9 = .ok (.iconst 1, 1) := by decide +kernel
theorem zd_X_isPriority_10 : decode zb_X_isPriority 10 = .ok (.goto 4, 3) := by decide +kernel
theorem zd_X_isPriority_13 : decode zb_X_isPriority 13 = .ok (.iconst 0, 1) := by decide +kernel
theorem zd_X_isPriority_14 : decode zb_X_isPriority 14 = .ok (.ireturn, 1) := by decide +kernel
theorem zd_X_routeOf_0 : decode zb_X_routeOf 0 = .ok (.iload_n 2, 1) := by decide +kernel
theorem zd_X_routeOf_1 : decode zb_X_routeOf 1 = .ok (.invokestatic 150, 3) := by decide +kernel
theorem zd_X_routeOf_4 : decode zb_X_routeOf 4 = .ok (.istore 4, 2) := by decide +kernel
theorem zd_X_routeOf_6 : decode zb_X_routeOf 6 = .ok (.iload_n 3, 1) := by decide +kernel
theorem zd_X_routeOf_7 : decode zb_X_routeOf 7 = .ok (.invokestatic 150, 3) := by decide +kernel
theorem zd_X_routeOf_10 : decode zb_X_routeOf 10 = .ok (.istore 5, 2) := by decide +kernel
theorem zd_X_routeOf_12 : decode zb_X_routeOf 12 = .ok (.iload 4, 2) := by decide +kernel
theorem zd_X_routeOf_14 : decode zb_X_routeOf 14 = .ok (.iload 5, 2) := by decide +kernel
theorem zd_X_routeOf_16 : decode zb_X_routeOf 16 = .ok (.if_icmp .ne 28, 3) := by decide +kernel
theorem zd_X_routeOf_19 : decode zb_X_routeOf 19 = .ok (.iconst 2, 1) := by decide +kernel
theorem zd_X_routeOf_20 : decode zb_X_routeOf 20 = .ok (.anewarray 107, 3) := by decide +kernel
theorem zd_X_routeOf_23 : decode zb_X_routeOf 23 = .ok (.dup, 1) := by decide +kernel
theorem zd_X_routeOf_24 : decode zb_X_routeOf 24 = .ok (.iconst 0, 1) := by decide +kernel
theorem zd_X_routeOf_25 : decode zb_X_routeOf 25 = .ok (.aload_n 0, 1) := by decide +kernel
theorem zd_X_routeOf_26 : decode zb_X_routeOf 26 = .ok (.iload_n 2, 1) := by decide +kernel
theorem zd_X_routeOf_27 : decode zb_X_routeOf 27 = .ok (.iload 4, 2) := by decide +kernel
theorem zd_X_routeOf_29 : decode zb_X_routeOf 29 = .ok (.invokevirtual 102, 3) := by decide +kernel
theorem zd_X_routeOf_32 : decode zb_X_routeOf 32 = .ok (.aastore, 1) := by decide +kernel
theorem zd_X_routeOf_33 : decode zb_X_routeOf 33 = .ok (.dup, 1) := by decide +kernel
theorem zd_X_routeOf_34 : decode zb_X_routeOf 34 = .ok (.iconst 1, 1) := by decide +kernel
theorem zd_X_routeOf_35 : decode zb_X_routeOf 35 = .ok (.aload_n 0, 1) := by decide +kernel
theorem zd_X_routeOf_36 : decode zb_X_routeOf 36 = .ok (.iload 4, 2) := by decide +kernel
theorem zd_X_routeOf_38 : decode zb_X_routeOf 38 = .ok (.iload_n 3, 1) := by decide +kernel
theorem zd_X_routeOf_39 : decode zb_X_routeOf 39 = .ok (.invokevirtual 102, 3) := by decide +kernel
theorem zd_X_routeOf_42 : decode zb_X_routeOf 42 = .ok (.aastore, 1) := by decide +kernel
theorem zd_X_routeOf_43 : decode zb_X_routeOf 43 = .ok (.areturn, 1) := by decide +kernel
theorem zd_X_routeOf_44 : decode zb_X_routeOf 44 = .ok (.bipush 12, 2) := by decide +kernel
theorem zd_X_routeOf_46 : decode zb_X_routeOf 46 = .ok (.iload_n 1, 1) := by decide +kernel
theorem zd_X_routeOf_47 : decode zb_X_routeOf 47 = .ok (.invokestatic 167, 3) := by decide +kernel
theorem zd_X_routeOf_50 : decode zb_X_routeOf 50 = .ok (.iconst 2, 1) := by decide +kernel
theorem zd_X_routeOf_51 : decode zb_X_routeOf 51 = .ok (.irem, 1) := by decide +kernel
theorem zd_X_routeOf_52 : decode zb_X_routeOf 52 = .ok (.iadd, 1) := by decide +kernel
theorem zd_X_routeOf_53 : decode zb_X_routeOf 53 = .ok (.istore 6, 2) := by decide +kernel
theorem zd_X_routeOf_55 : decode zb_X_routeOf 55 = .ok (.iconst 4, 1) := by decide +kernel
theorem zd_X_routeOf_56 : decode zb_X_routeOf 56 = .ok (.anewarray 107, 3) := by decide +kernel
theorem zd_X_routeOf_59 : decode zb_X_routeOf 59 = .ok (.dup, 1) := by decide +kernel
theorem zd_X_routeOf_60 : decode zb_X_routeOf 60 = .ok (.iconst 0, 1) := by decide +kernel
theorem zd_X_routeOf_61 : decode zb_X_routeOf 61 = .ok (.aload_n 0, 1) := by decide +kernel
theorem zd_X_routeOf_62 : decode zb_X_routeOf 62 = .ok (.iload_n 2, 1) := by decide +kernel
theorem zd_X_routeOf_63 : decode zb_X_routeOf 63 = .ok (.iload 4, 2) := by decide +kernel
theorem zd_X_routeOf_65 : decode zb_X_routeOf 65 = .ok (.invokevirtual 102, 3) := by decide +kernel
theorem zd_X_routeOf_68 : decode zb_X_routeOf 68 = .ok (.aastore, 1) := by decide +kernel
theorem zd_X_routeOf_69 : decode zb_X_routeOf 69 = .ok (.dup, 1) := by decide +kernel
theorem zd_X_routeOf_70 : decode zb_X_routeOf 70 = .ok (.iconst 1, 1) := by decide +kernel
theorem zd_X_routeOf_71 : decode zb_X_routeOf 71 = .ok (.aload_n 0, 1) := by decide +kernel
theorem zd_X_routeOf_72 : decode zb_X_routeOf 72 = .ok (.iload 4, 2) := by decide +kernel
theorem zd_X_routeOf_74 : decode zb_X_routeOf 74 = .ok (.iload 6, 2) := by decide +kernel
theorem zd_X_routeOf_76 : decode zb_X_routeOf 76 = .ok (.invokevirtual 102, 3) := by decide +kernel
theorem zd_X_routeOf_79 : decode zb_X_routeOf 79 = .ok (.aastore, 1) := by decide +kernel
theorem zd_X_routeOf_80 : decode zb_X_routeOf 80 = .ok (.dup, 1) := by decide +kernel
theorem zd_X_routeOf_81 : decode zb_X_routeOf 81 = .ok (.iconst 2, 1) := by decide +kernel
theorem zd_X_routeOf_82 : decode zb_X_routeOf 82 = .ok (.aload_n 0, 1) := by decide +kernel
theorem zd_X_routeOf_83 : decode zb_X_routeOf 83 = .ok (.iload 6, 2) := by decide +kernel
theorem zd_X_routeOf_85 : decode zb_X_routeOf 85 = .ok (.iload 5, 2) := by decide +kernel
theorem zd_X_routeOf_87 : decode zb_X_routeOf 87 = .ok (.invokevirtual 102, 3) := by decide +kernel
theorem zd_X_routeOf_90 : decode zb_X_routeOf 90 = .ok (.aastore, 1) := by decide +kernel
theorem zd_X_routeOf_91 : decode zb_X_routeOf 91 = .ok (.dup, 1) := by decide +kernel
theorem zd_X_routeOf_92 : decode zb_X_routeOf 92 = .ok (.iconst 3, 1) := by decide +kernel
theorem zd_X_routeOf_93 : decode zb_X_routeOf 93 = .ok (.aload_n 0, 1) := by decide +kernel
theorem zd_X_routeOf_94 : decode zb_X_routeOf 94 = .ok (.iload 5, 2) := by decide +kernel
theorem zd_X_routeOf_96 : decode zb_X_routeOf 96 = .ok (.iload_n 3, 1) := by decide +kernel
theorem zd_X_routeOf_97 : decode zb_X_routeOf 97 = .ok (.invokevirtual 102, 3) := by decide +kernel
theorem zd_X_routeOf_100 : decode zb_X_routeOf 100 = .ok (.aastore, 1) := by decide +kernel
theorem zd_X_routeOf_101 : decode zb_X_routeOf 101 = .ok (.areturn, 1) := by decide +kernel
theorem zd_X_portBetween_0 : decode zb_X_portBetween 0 = .ok (.aload_n 0, 1) := by decide +kernel
theorem zd_X_portBetween_1 : decode zb_X_portBetween 1 = .ok (.getfield 17, 3) := by decide +kernel
theorem zd_X_portBetween_4 : decode zb_X_portBetween 4 = .ok (.astore_n 3, 1) := by decide +kernel
theorem zd_X_portBetween_5 : decode zb_X_portBetween 5 = .ok (.aload_n 3, 1) := by decide +kernel
theorem zd_X_portBetween_6 : decode zb_X_portBetween 6 = .ok (.arraylength, 1) := by decide +kernel
theorem zd_X_portBetween_7 : decode zb_X_portBetween 7 = .ok (.istore 4, 2) := by decide +kernel
theorem zd_X_portBetween_9 : decode zb_X_portBetween 9 = .ok (.iconst 0, 1) := by decide +kernel
theorem zd_X_portBetween_10 : decode zb_X_portBetween 10 = .ok (.istore 5, 2) := by decide +kernel
theorem zd_X_portBetween_12 : decode zb_X_portBetween 12 = .ok (.iload 5, 2) := by decide +kernel
theorem zd_X_portBetween_14 : decode zb_X_portBetween 14 = .ok (.iload 4, 2) := by decide +kernel
theorem zd_X_portBetween_16 : decode zb_X_portBetween 16 = .ok (.if_icmp .ge 36, 3) := by decide +kernel
theorem zd_X_portBetween_19 : decode zb_X_portBetween 19 = .ok (.aload_n 3, 1) := by decide +kernel
theorem zd_X_portBetween_20 : decode zb_X_portBetween 20 = .ok (.iload 5, 2) := by decide +kernel
theorem zd_X_portBetween_22 : decode zb_X_portBetween 22 = .ok (.aaload, 1) := by decide +kernel
theorem zd_X_portBetween_23 : decode zb_X_portBetween 23 = .ok (.astore 6, 2) := by decide +kernel
theorem zd_X_portBetween_25 : decode zb_X_portBetween 25 = .ok (.aload 6, 2) := by decide +kernel
theorem zd_X_portBetween_27 : decode zb_X_portBetween 27 = .ok (.getfield 161, 3) := by decide +kernel
theorem zd_X_portBetween_30 : decode zb_X_portBetween 30 = .ok (.iload_n 1, 1) := by decide +kernel
theorem zd_X_portBetween_31 : decode zb_X_portBetween 31 = .ok (.if_icmp .ne 15, 3) := by decide +kernel
theorem zd_X_portBetween_34 : decode zb_X_portBetween 34 = .ok (.aload 6, 2) := by decide +kernel
theorem zd_X_portBetween_36 : decode zb_X_portBetween 36 = .ok (.getfield 164, 3) := by decide +kernel
theorem zd_X_portBetween_39 : decode zb_X_portBetween 39 = .ok (.iload_n 2, 1) := by decide +kernel
theorem zd_X_portBetween_40 : decode zb_X_portBetween 40 = .ok (.if_icmp .ne 6, 3) := by decide +kernel
theorem zd_X_portBetween_43 : decode zb_X_portBetween 43 = .ok (.aload 6, 2) := by decide +kernel
theorem zd_X_portBetween_45 : decode zb_X_portBetween 45 = .ok (.areturn, 1) := by decide +kernel
theorem zd_X_portBetween_46 : decode zb_X_portBetween 46 = .ok (.iinc 5 1, 3) := by decide +kernel
theorem zd_X_portBetween_49 : decode zb_X_portBetween 49 = .ok (.goto (-37), 3) := by decide +kernel
theorem zd_X_portBetween_52 : decode zb_X_portBetween 52 = .ok (.aconst_null, 1) := by decide +kernel
theorem zd_X_portBetween_53 : decode zb_X_portBetween 53 = .ok (.areturn, 1) := by decide +kernel
theorem zd_J_bitCount_0 : decode zb_J_bitCount 0 = .ok (.iload_n 0, 1) := by decide +kernel
theorem zd_J_bitCount_1 : decode zb_J_bitCount 1 = .ok (.iload_n 0, 1) := by decide +kernel
theorem zd_J_bitCount_2 : decode zb_J_bitCount 2 = .ok (.iconst 1, 1) := by decide +kernel
theorem zd_J_bitCount_3 : decode zb_J_bitCount 3 = .ok (.iushr, 1) := by decide +kernel
theorem zd_J_bitCount_4 : decode zb_J_bitCount 4 = .ok (.ldc_w 265, 3) := by decide +kernel
theorem zd_J_bitCount_7 : decode zb_J_bitCount 7 = .ok (.iand, 1) := by decide +kernel
theorem zd_J_bitCount_8 : decode zb_J_bitCount 8 = .ok (.isub, 1) := by decide +kernel
theorem zd_J_bitCount_9 : decode zb_J_bitCount 9 = .ok (.istore_n 0, 1) := by decide +kernel
theorem zd_J_bitCount_10 : decode zb_J_bitCount 10 = .ok (.iload_n 0, 1) := by decide +kernel
theorem zd_J_bitCount_11 : decode zb_J_bitCount 11 = .ok (.ldc_w 266, 3) := by decide +kernel
theorem zd_J_bitCount_14 : decode zb_J_bitCount 14 = .ok (.iand, 1) := by decide +kernel
theorem zd_J_bitCount_15 : decode zb_J_bitCount 15 = .ok (.iload_n 0, 1) := by decide +kernel
theorem zd_J_bitCount_16 : decode zb_J_bitCount 16 = .ok (.iconst 2, 1) := by decide +kernel
theorem zd_J_bitCount_17 : decode zb_J_bitCount 17 = .ok (.iushr, 1) := by decide +kernel
theorem zd_J_bitCount_18 : decode zb_J_bitCount 18 = .ok (.ldc_w 266, 3) := by decide +kernel
theorem zd_J_bitCount_21 : decode zb_J_bitCount 21 = .ok (.iand, 1) := by decide +kernel
theorem zd_J_bitCount_22 : decode zb_J_bitCount 22 = .ok (.iadd, 1) := by decide +kernel
theorem zd_J_bitCount_23 : decode zb_J_bitCount 23 = .ok (.istore_n 0, 1) := by decide +kernel
theorem zd_J_bitCount_24 : decode zb_J_bitCount 24 = .ok (.iload_n 0, 1) := by decide +kernel
theorem zd_J_bitCount_25 : decode zb_J_bitCount 25 = .ok (.iload_n 0, 1) := by decide +kernel
theorem zd_J_bitCount_26 : decode zb_J_bitCount 26 = .ok (.iconst 4, 1) := by decide +kernel
theorem zd_J_bitCount_27 : decode zb_J_bitCount 27 = .ok (.iushr, 1) := by decide +kernel
theorem zd_J_bitCount_28 : decode zb_J_bitCount 28 = .ok (.iadd, 1) := by decide +kernel
theorem zd_J_bitCount_29 : decode zb_J_bitCount 29 = .ok (.ldc_w 267, 3) := by decide +kernel
theorem zd_J_bitCount_32 : decode zb_J_bitCount 32 = .ok (.iand, 1) := by decide +kernel
theorem zd_J_bitCount_33 : decode zb_J_bitCount 33 = .ok (.istore_n 0, 1) := by decide +kernel
theorem zd_J_bitCount_34 : decode zb_J_bitCount 34 = .ok (.iload_n 0, 1) := by decide +kernel
theorem zd_J_bitCount_35 : decode zb_J_bitCount 35 = .ok (.iload_n 0, 1) := by decide +kernel
theorem zd_J_bitCount_36 : decode zb_J_bitCount 36 = .ok (.bipush 8, 2) := by decide +kernel
theorem zd_J_bitCount_38 : decode zb_J_bitCount 38 = .ok (.iushr, 1) := by decide +kernel
theorem zd_J_bitCount_39 : decode zb_J_bitCount 39 = .ok (.iadd, 1) := by decide +kernel
theorem zd_J_bitCount_40 : decode zb_J_bitCount 40 = .ok (.istore_n 0, 1) := by decide +kernel
theorem zd_J_bitCount_41 : decode zb_J_bitCount 41 = .ok (.iload_n 0, 1) := by decide +kernel
theorem zd_J_bitCount_42 : decode zb_J_bitCount 42 = .ok (.iload_n 0, 1) := by decide +kernel
theorem zd_J_bitCount_43 : decode zb_J_bitCount 43 = .ok (.bipush 16, 2) := by decide +kernel
theorem zd_J_bitCount_45 : decode zb_J_bitCount 45 = .ok (.iushr, 1) := by decide +kernel
theorem zd_J_bitCount_46 : decode zb_J_bitCount 46 = .ok (.iadd, 1) := by decide +kernel
theorem zd_J_bitCount_47 : decode zb_J_bitCount 47 = .ok (.istore_n 0, 1) := by decide +kernel
theorem zd_J_bitCount_48 : decode zb_J_bitCount 48 = .ok (.iload_n 0, 1) := by decide +kernel
theorem zd_J_bitCount_49 : decode zb_J_bitCount 49 = .ok (.bipush 63, 2) := by decide +kernel
theorem zd_J_bitCount_51 : decode zb_J_bitCount 51 = .ok (.iand, 1) := by decide +kernel
theorem zd_J_bitCount_52 : decode zb_J_bitCount 52 = .ok (.ireturn, 1) := by decide +kernel
theorem zd_F_init_0 : decode zb_F_init 0 = .ok (.aload_n 0, 1) := by decide +kernel
theorem zd_F_init_1 : decode zb_F_init 1 = .ok (.invokespecial 3, 3) := by decide +kernel
theorem zd_F_init_4 : decode zb_F_init 4 = .ok (.aload_n 0, 1) := by decide +kernel
theorem zd_F_init_5 : decode zb_F_init 5 = .ok (.bipush 64, 2) := by decide +kernel
theorem zd_F_init_7 : decode zb_F_init 7 = .ok (.putfield 9, 3) := by decide +kernel
theorem zd_F_init_10 : decode zb_F_init 10 = .ok (.aload_n 0, 1) := by decide +kernel
theorem zd_F_init_11 : decode zb_F_init 11 = .ok (.bipush 64, 2) := by decide +kernel
theorem zd_F_init_13 : decode zb_F_init 13 = .ok (.putfield 15, 3) := by decide +kernel
theorem zd_F_init_16 : decode zb_F_init 16 = .ok (.aload_n 0, 1) := by decide +kernel
theorem zd_F_init_17 : decode zb_F_init 17 = .ok (.bipush 64, 2) := by decide +kernel
theorem zd_F_init_19 : decode zb_F_init 19 = .ok (.putfield 18, 3) := by decide +kernel
theorem zd_F_init_22 : decode zb_F_init 22 = .ok (.aload_n 0, 1) := by decide +kernel
theorem zd_F_init_23 : decode zb_F_init 23 = .ok (.iconst 0, 1) := by decide +kernel
theorem zd_F_init_24 : decode zb_F_init 24 = .ok (.putfield 21, 3) := by decide +kernel
theorem zd_F_init_27 : decode zb_F_init 27 = .ok (.aload_n 0, 1) := by decide +kernel
theorem zd_F_init_28 : decode zb_F_init 28 = .ok (.iconst 0, 1) := by decide +kernel
theorem zd_F_init_29 : decode zb_F_init 29 = .ok (.putfield 24, 3) := by decide +kernel
theorem zd_F_init_32 : decode zb_F_init 32 = .ok (.aload_n 0, 1) := by decide +kernel
theorem zd_F_init_33 : decode zb_F_init 33 = .ok (.iconst 0, 1) := by decide +kernel
theorem zd_F_init_34 : decode zb_F_init 34 = .ok (.putfield 27, 3) := by decide +kernel
theorem zd_F_init_37 : decode zb_F_init 37 = .ok (.aload_n 0, 1) := by decide +kernel
theorem zd_F_init_38 : decode zb_F_init 38 = .ok (.iconst 0, 1) := by decide +kernel
theorem zd_F_init_39 : decode zb_F_init 39 = .ok (.putfield 31, 3) := by decide +kernel
theorem zd_F_init_42 : decode zb_F_init 42 = .ok (.aload_n 0, 1) := by decide +kernel
theorem zd_F_init_43 : decode zb_F_init 43 = .ok (.iconst 0, 1) := by decide +kernel
theorem zd_F_init_44 : decode zb_F_init 44 = .ok (.putfield 34, 3) := by decide +kernel
theorem zd_F_init_47 : decode zb_F_init 47 = .ok (.aload_n 0, 1) := by decide +kernel
theorem zd_F_init_48 : decode zb_F_init 48 = .ok (.iconst 0, 1) := by decide +kernel
theorem zd_F_init_49 : decode zb_F_init 49 = .ok (.putfield 37, 3) := by decide +kernel
theorem zd_F_init_52 : decode zb_F_init 52 = .ok (.aload_n 0, 1) := by decide +kernel
theorem zd_F_init_53 : decode zb_F_init 53 = .ok (.iconst (-1), 1) := by decide +kernel
theorem zd_F_init_54 : decode zb_F_init 54 = .ok (.putfield 40, 3) := by decide +kernel
theorem zd_F_init_57 : decode zb_F_init 57 = .ok (.aload_n 0, 1) := by decide +kernel
theorem zd_F_init_58 : decode zb_F_init 58 = .ok (.iload_n 1, 1) := by decide +kernel
theorem zd_F_init_59 : decode zb_F_init 59 = .ok (.putfield 43, 3) := by decide +kernel
theorem zd_F_init_62 : decode zb_F_init 62 = .ok (.aload_n 0, 1) := by decide +kernel
theorem zd_F_init_63 : decode zb_F_init 63 = .ok (.aload_n 2, 1) := by decide +kernel
theorem zd_F_init_64 : decode zb_F_init 64 = .ok (.putfield 46, 3) := by decide +kernel
theorem zd_F_init_67 : decode zb_F_init 67 = .ok (.return_, 1) := by decide +kernel
theorem zd_X_share_0 : decode zb_X_share 0 = .ok (.iload_n 1, 1) := by decide +kernel
theorem zd_X_share_1 : decode zb_X_share 1 = .ok (.invokestatic 63, 3) := by decide +kernel
theorem zd_X_share_4 : decode zb_X_share 4 = .ok (.ifCond .eq 14, 3) := by decide +kernel
theorem zd_X_share_7 : decode zb_X_share 7 = .ok (.iload_n 2, 1) := by decide +kernel
theorem zd_X_share_8 : decode zb_X_share 8 = .ok (.iconst 1, 1) := by decide +kernel
theorem zd_X_share_9 : decode zb_X_share 9 = .ok (.if_icmp .lt 9, 3) := by decide +kernel
theorem zd_X_share_12 : decode zb_X_share 12 = .ok (.iload_n 2, 1) := by decide +kernel
theorem zd_X_share_13 : decode zb_X_share 13 = .ok (.bipush 8, 2) := by decide +kernel
theorem zd_X_share_15 : decode zb_X_share 15 = .ok (.if_icmp .le 5, 3) := by decide +kernel
theorem zd_X_share_18 : decode zb_X_share 18 = .ok (.iconst 0, 1) := by decide +kernel
theorem zd_X_share_19 : decode zb_X_share 19 = .ok (.ireturn, 1) := by decide +kernel
theorem zd_X_share_20 : decode zb_X_share 20 = .ok (.aload_n 0, 1) := by decide +kernel
theorem zd_X_share_21 : decode zb_X_share 21 = .ok (.getfield 7, 3) := by decide +kernel
theorem zd_X_share_24 : decode zb_X_share 24 = .ok (.iload_n 1, 1) := by decide +kernel
theorem zd_X_share_25 : decode zb_X_share 25 = .ok (.iload_n 2, 1) := by decide +kernel
theorem zd_X_share_26 : decode zb_X_share 26 = .ok (.iastore, 1) := by decide +kernel
theorem zd_X_share_27 : decode zb_X_share 27 = .ok (.iconst 1, 1) := by decide +kernel
theorem zd_X_share_28 : decode zb_X_share 28 = .ok (.ireturn, 1) := by decide +kernel
theorem zd_X_inject_0 : decode zb_X_inject 0 = .ok (.aload_n 0, 1) := by decide +kernel
theorem zd_X_inject_1 : decode zb_X_inject 1 = .ok (.iload_n 1, 1) := by decide +kernel
theorem zd_X_inject_2 : decode zb_X_inject 2 = .ok (.invokevirtual 73, 3) := by decide +kernel
theorem zd_X_inject_5 : decode zb_X_inject 5 = .ok (.astore_n 3, 1) := by decide +kernel
theorem zd_X_inject_6 : decode zb_X_inject 6 = .ok (.aload_n 3, 1) := by decide +kernel
theorem zd_X_inject_7 : decode zb_X_inject 7 = .ok (.ifnull 22, 3) := by decide +kernel
theorem zd_X_inject_10 : decode zb_X_inject 10 = .ok (.iload_n 2, 1) := by decide +kernel
theorem zd_X_inject_11 : decode zb_X_inject 11 = .ok (.iconst 1, 1) := by decide +kernel
theorem zd_X_inject_12 : decode zb_X_inject 12 = .ok (.if_icmp .lt 17, 3) := by decide +kernel
theorem zd_X_inject_15 : decode zb_X_inject 15 = .ok (.iload_n 2, 1) := by decide +kernel
theorem zd_X_inject_16 : decode zb_X_inject 16 = .ok (.iconst 4, 1) := by decide +kernel
theorem zd_X_inject_17 : decode zb_X_inject 17 = .ok (.if_icmp .gt 12, 3) := by decide +kernel
theorem zd_X_inject_20 : decode zb_X_inject 20 = .ok (.aload_n 0, 1) := by decide +kernel
theorem zd_X_inject_21 : decode zb_X_inject 21 = .ok (.getfield 37, 3) := by decide +kernel
theorem zd_X_inject_24 : decode zb_X_inject 24 = .ok (.bipush 100, 2) := by decide +kernel
theorem zd_X_inject_26 : decode zb_X_inject 26 = .ok (.if_icmp .lt 5, 3) := by decide +kernel
theorem zd_X_inject_29 : decode zb_X_inject 29 = .ok (.iconst (-1), 1) := by decide +kernel
theorem zd_X_inject_30 : decode zb_X_inject 30 = .ok (.ireturn, 1) := by decide +kernel
theorem zd_X_inject_31 : decode zb_X_inject 31 = .ok (.aload_n 0, 1) := by decide +kernel
theorem zd_X_inject_32 : decode zb_X_inject 32 = .ok (.getfield 37, 3) := by decide +kernel
theorem zd_X_inject_35 : decode zb_X_inject 35 = .ok (.istore 4, 2) := by decide +kernel
theorem zd_X_inject_37 : decode zb_X_inject 37 = .ok (.new 27, 3) := by decide +kernel
theorem zd_X_inject_40 : decode zb_X_inject 40 = .ok (.dup, 1) := by decide +kernel
theorem zd_X_inject_41 : decode zb_X_inject 41 = .ok (.iload 4, 2) := by decide +kernel
theorem zd_X_inject_43 : decode zb_X_inject 43 = .ok (.aload_n 3, 1) := by decide +kernel
theorem zd_X_inject_44 : decode zb_X_inject 44 = .ok (.iload_n 2, 1) := by decide +kernel
theorem zd_X_inject_45 : decode zb_X_inject 45 = .ok (.invokespecial 77, 3) := by decide +kernel
theorem zd_X_inject_48 : decode zb_X_inject 48 = .ok (.astore 5, 2) := by decide +kernel
theorem zd_X_inject_50 : decode zb_X_inject 50 = .ok (.aload_n 0, 1) := by decide +kernel
theorem zd_X_inject_51 : decode zb_X_inject 51 = .ok (.getfield 29, 3) := by decide +kernel
theorem zd_X_inject_54 : decode zb_X_inject 54 = .ok (.iload 4, 2) := by decide +kernel
theorem zd_X_inject_56 : decode zb_X_inject 56 = .ok (.aload 5, 2) := by decide +kernel
theorem zd_X_inject_58 : decode zb_X_inject 58 = .ok (.aastore, 1) := by decide +kernel
theorem zd_X_inject_59 : decode zb_X_inject 59 = .ok (.aload_n 0, 1) := by decide +kernel
theorem zd_X_inject_60 : decode zb_X_inject 60 = .ok (.dup, 1) := by decide +kernel
theorem zd_X_inject_61 : decode zb_X_inject 61 = .ok (.getfield 37, 3) := by decide +kernel
theorem zd_X_inject_64 : decode zb_X_inject 64 = .ok (.iconst 1, 1) := by decide +kernel
theorem zd_X_inject_65 : decode zb_X_inject 65 = .ok (.iadd, 1) := by decide +kernel
theorem zd_X_inject_66 : decode zb_X_inject 66 = .ok (.putfield 37, 3) := by decide +kernel
theorem zd_X_inject_69 : decode zb_X_inject 69 = .ok (.aload 5, 2) := by decide +kernel
theorem zd_X_inject_71 : decode zb_X_inject 71 = .ok (.invokestatic 80, 3) := by decide +kernel
theorem zd_X_inject_74 : decode zb_X_inject 74 = .ok (.pop, 1) := by decide +kernel
theorem zd_X_inject_75 : decode zb_X_inject 75 = .ok (.iload 4, 2) := by decide +kernel
theorem zd_X_inject_77 : decode zb_X_inject 77 = .ok (.ireturn, 1) := by decide +kernel
theorem zd_X_flowAt_0 : decode zb_X_flowAt 0 = .ok (.iload_n 1, 1) := by decide +kernel
theorem zd_X_flowAt_1 : decode zb_X_flowAt 1 = .ok (.ifCond .lt 20, 3) := by decide +kernel
theorem zd_X_flowAt_4 : decode zb_X_flowAt 4 = .ok (.iload_n 1, 1) := by decide +kernel
theorem zd_X_flowAt_5 : decode zb_X_flowAt 5 = .ok (.aload_n 0, 1) := by decide +kernel
theorem zd_X_flowAt_6 : decode zb_X_flowAt 6 = .ok (.getfield 33, 3) := by decide +kernel
theorem zd_X_flowAt_9 : decode zb_X_flowAt 9 = .ok (.if_icmp .ge 12, 3) := by decide +kernel
theorem zd_X_flowAt_12 : decode zb_X_flowAt 12 = .ok (.aload_n 0, 1) := by decide +kernel
theorem zd_X_flowAt_13 : decode zb_X_flowAt 13 = .ok (.getfield 23, 3) := by decide +kernel
theorem zd_X_flowAt_16 : decode zb_X_flowAt 16 = .ok (.iload_n 1, 1) := by decide +kernel
theorem zd_X_flowAt_17 : decode zb_X_flowAt 17 = .ok (.aaload, 1) := by decide +kernel
theorem zd_X_flowAt_18 : decode zb_X_flowAt 18 = .ok (.goto 4, 3) := by decide +kernel
theorem zd_X_flowAt_21 : decode zb_X_flowAt 21 = .ok (.aconst_null, 1) := by decide +kernel
theorem zd_X_flowAt_22 : decode zb_X_flowAt 22 = .ok (.areturn, 1) := by decide +kernel
theorem zd_K_init_0 : decode zb_K_init 0 = .ok (.aload_n 0, 1) := by decide +kernel
theorem zd_K_init_1 : decode zb_K_init 1 = .ok (.invokespecial 3, 3) := by decide +kernel
theorem zd_K_init_4 : decode zb_K_init 4 = .ok (.aload_n 0, 1) := by decide +kernel
theorem zd_K_init_5 : decode zb_K_init 5 = .ok (.iconst 1, 1) := by decide +kernel
theorem zd_K_init_6 : decode zb_K_init 6 = .ok (.putfield 9, 3) := by decide +kernel
theorem zd_K_init_9 : decode zb_K_init 9 = .ok (.aload_n 0, 1) := by decide +kernel
theorem zd_K_init_10 : decode zb_K_init 10 = .ok (.iconst (-1), 1) := by decide +kernel
theorem zd_K_init_11 : decode zb_K_init 11 = .ok (.putfield 15, 3) := by decide +kernel
theorem zd_K_init_14 : decode zb_K_init 14 = .ok (.aload_n 0, 1) := by decide +kernel
theorem zd_K_init_15 : decode zb_K_init 15 = .ok (.iconst 0, 1) := by decide +kernel
theorem zd_K_init_16 : decode zb_K_init 16 = .ok (.putfield 18, 3) := by decide +kernel
theorem zd_K_init_19 : decode zb_K_init 19 = .ok (.aload_n 0, 1) := by decide +kernel
theorem zd_K_init_20 : decode zb_K_init 20 = .ok (.iconst 0, 1) := by decide +kernel
theorem zd_K_init_21 : decode zb_K_init 21 = .ok (.putfield 22, 3) := by decide +kernel
theorem zd_K_init_24 : decode zb_K_init 24 = .ok (.aload_n 0, 1) := by decide +kernel
theorem zd_K_init_25 : decode zb_K_init 25 = .ok (.aconst_null, 1) := by decide +kernel
theorem zd_K_init_26 : decode zb_K_init 26 = .ok (.putfield 25, 3) := by decide +kernel
theorem zd_K_init_29 : decode zb_K_init 29 = .ok (.aload_n 0, 1) := by decide +kernel
theorem zd_K_init_30 : decode zb_K_init 30 = .ok (.iconst 0, 1) := by decide +kernel
theorem zd_K_init_31 : decode zb_K_init 31 = .ok (.putfield 29, 3) := by decide +kernel
theorem zd_K_init_34 : decode zb_K_init 34 = .ok (.aload_n 0, 1) := by decide +kernel
theorem zd_K_init_35 : decode zb_K_init 35 = .ok (.aconst_null, 1) := by decide +kernel
theorem zd_K_init_36 : decode zb_K_init 36 = .ok (.putfield 32, 3) := by decide +kernel
theorem zd_K_init_39 : decode zb_K_init 39 = .ok (.aload_n 0, 1) := by decide +kernel
theorem zd_K_init_40 : decode zb_K_init 40 = .ok (.iload_n 1, 1) := by decide +kernel
theorem zd_K_init_41 : decode zb_K_init 41 = .ok (.putfield 36, 3) := by decide +kernel
theorem zd_K_init_44 : decode zb_K_init 44 = .ok (.aload_n 0, 1) := by decide +kernel
theorem zd_K_init_45 : decode zb_K_init 45 = .ok (.aload_n 2, 1) := by decide +kernel
theorem zd_K_init_46 : decode zb_K_init 46 = .ok (.putfield 39, 3) := by decide +kernel
theorem zd_K_init_49 : decode zb_K_init 49 = .ok (.aload_n 0, 1) := by decide +kernel
theorem zd_K_init_50 : decode zb_K_init 50 = .ok (.iload_n 3, 1) := by decide +kernel
theorem zd_K_init_51 : decode zb_K_init 51 = .ok (.putfield 43, 3) := by decide +kernel
theorem zd_K_init_54 : decode zb_K_init 54 = .ok (.return_, 1) := by decide +kernel
theorem zd_X_enqueue_0 : decode zb_X_enqueue 0 = .ok (.aload_n 0, 1) := by decide +kernel
theorem zd_X_enqueue_1 : decode zb_X_enqueue 1 = .ok (.getfield 229, 3) := by decide +kernel
theorem zd_X_enqueue_4 : decode zb_X_enqueue 4 = .ok (.aload_n 0, 1) := by decide +kernel
theorem zd_X_enqueue_5 : decode zb_X_enqueue 5 = .ok (.getfield 260, 3) := by decide +kernel
theorem zd_X_enqueue_8 : decode zb_X_enqueue 8 = .ok (.invokevirtual 263, 3) := by decide +kernel
theorem zd_X_enqueue_11 : decode zb_X_enqueue 11 = .ok (.astore_n 1, 1) := by decide +kernel
theorem zd_X_enqueue_12 : decode zb_X_enqueue 12 = .ok (.aload_n 1, 1) := by decide +kernel
theorem zd_X_enqueue_13 : decode zb_X_enqueue 13 = .ok (.ifnonnull 5, 3) := by decide +kernel
theorem zd_X_enqueue_16 : decode zb_X_enqueue 16 = .ok (.iconst 0, 1) := by decide +kernel
theorem zd_X_enqueue_17 : decode zb_X_enqueue 17 = .ok (.ireturn, 1) := by decide +kernel
theorem zd_X_enqueue_18 : decode zb_X_enqueue 18 = .ok (.aload_n 1, 1) := by decide +kernel
theorem zd_X_enqueue_19 : decode zb_X_enqueue 19 = .ok (.getfield 106, 3) := by decide +kernel
theorem zd_X_enqueue_22 : decode zb_X_enqueue 22 = .ok (.aload_n 0, 1) := by decide +kernel
theorem zd_X_enqueue_23 : decode zb_X_enqueue 23 = .ok (.getfield 229, 3) := by decide +kernel
theorem zd_X_enqueue_26 : decode zb_X_enqueue 26 = .ok (.getfield 233, 3) := by decide +kernel
theorem zd_X_enqueue_29 : decode zb_X_enqueue 29 = .ok (.aaload, 1) := by decide +kernel
theorem zd_X_enqueue_30 : decode zb_X_enqueue 30 = .ok (.astore_n 2, 1) := by decide +kernel
theorem zd_X_enqueue_31 : decode zb_X_enqueue 31 = .ok (.aload_n 0, 1) := by decide +kernel
theorem zd_X_enqueue_32 : decode zb_X_enqueue 32 = .ok (.iconst 1, 1) := by decide +kernel
theorem zd_X_enqueue_33 : decode zb_X_enqueue 33 = .ok (.putfield 92, 3) := by decide +kernel
theorem zd_X_enqueue_36 : decode zb_X_enqueue 36 = .ok (.aload_n 0, 1) := by decide +kernel
theorem zd_X_enqueue_37 : decode zb_X_enqueue 37 = .ok (.aload_n 1, 1) := by decide +kernel
theorem zd_X_enqueue_38 : decode zb_X_enqueue 38 = .ok (.getfield 161, 3) := by decide +kernel
theorem zd_X_enqueue_41 : decode zb_X_enqueue 41 = .ok (.putfield 95, 3) := by decide +kernel
theorem zd_X_enqueue_44 : decode zb_X_enqueue 44 = .ok (.aload_n 2, 1) := by decide +kernel
theorem zd_X_enqueue_45 : decode zb_X_enqueue 45 = .ok (.aload_n 0, 1) := by decide +kernel
theorem zd_X_enqueue_46 : decode zb_X_enqueue 46 = .ok (.invokevirtual 217, 3) := by decide +kernel
theorem zd_X_enqueue_49 : decode zb_X_enqueue 49 = .ok (.aload_n 2, 1) := by decide +kernel
theorem zd_X_enqueue_50 : decode zb_X_enqueue 50 = .ok (.getfield 112, 3) := by decide +kernel
theorem zd_X_enqueue_53 : decode zb_X_enqueue 53 = .ok (.ireturn, 1) := by decide +kernel
theorem zd_F_portAt_0 : decode zb_F_portAt 0 = .ok (.iload_n 1, 1) := by decide +kernel
theorem zd_F_portAt_1 : decode zb_F_portAt 1 = .ok (.ifCond .lt 21, 3) := by decide +kernel
theorem zd_F_portAt_4 : decode zb_F_portAt 4 = .ok (.iload_n 1, 1) := by decide +kernel
theorem zd_F_portAt_5 : decode zb_F_portAt 5 = .ok (.aload_n 0, 1) := by decide +kernel
theorem zd_F_portAt_6 : decode zb_F_portAt 6 = .ok (.getfield 46, 3) := by decide +kernel
theorem zd_F_portAt_9 : decode zb_F_portAt 9 = .ok (.arraylength, 1) := by decide +kernel
theorem zd_F_portAt_10 : decode zb_F_portAt 10 = .ok (.if_icmp .ge 12, 3) := by decide +kernel
theorem zd_F_portAt_13 : decode zb_F_portAt 13 = .ok (.aload_n 0, 1) := by decide +kernel
theorem zd_F_portAt_14 : decode zb_F_portAt 14 = .ok (.getfield 46, 3) := by decide +kernel
theorem zd_F_portAt_17 : decode zb_F_portAt 17 = .ok (.iload_n 1, 1) := by decide +kernel
theorem zd_F_portAt_18 : decode zb_F_portAt 18 = .ok (.aaload, 1) := by decide +kernel
theorem zd_F_portAt_19 : decode zb_F_portAt 19 = .ok (.goto 4, 3) := by decide +kernel
theorem zd_F_portAt_22 : decode zb_F_portAt 22 = .ok (.aconst_null, 1) := by decide +kernel
theorem zd_F_portAt_23 : decode zb_F_portAt 23 = .ok (.areturn, 1) := by decide +kernel
theorem zd_Q_add_0 : decode zb_Q_add 0 = .ok (.aload_n 1, 1) := by decide +kernel
theorem zd_Q_add_1 : decode zb_Q_add 1 = .ok (.aconst_null, 1) := by decide +kernel
theorem zd_Q_add_2 : decode zb_Q_add 2 = .ok (.putfield 20, 3) := by decide +kernel
theorem zd_Q_add_5 : decode zb_Q_add 5 = .ok (.aload_n 0, 1) := by decide +kernel
theorem zd_Q_add_6 : decode zb_Q_add 6 = .ok (.getfield 13, 3) := by decide +kernel
theorem zd_Q_add_9 : decode zb_Q_add 9 = .ok (.ifnonnull 11, 3) := by decide +kernel
theorem zd_Q_add_12 : decode zb_Q_add 12 = .ok (.aload_n 0, 1) := by decide +kernel
theorem zd_Q_add_13 : decode zb_Q_add 13 = .ok (.aload_n 1, 1) := by decide +kernel
theorem zd_Q_add_14 : decode zb_Q_add 14 = .ok (.putfield 7, 3) := by decide +kernel
theorem zd_Q_add_17 : decode zb_Q_add 17 = .ok (.goto 11, 3) := by decide +kernel
theorem zd_Q_add_20 : decode zb_Q_add 20 = .ok (.aload_n 0, 1) := by decide +kernel
theorem zd_Q_add_21 : decode zb_Q_add 21 = .ok (.getfield 13, 3) := by decide +kernel
theorem zd_Q_add_24 : decode zb_Q_add 24 = .ok (.aload_n 1, 1) := by decide +kernel
theorem zd_Q_add_25 : decode zb_Q_add 25 = .ok (.putfield 20, 3) := by decide +kernel
theorem zd_Q_add_28 : decode zb_Q_add 28 = .ok (.aload_n 0, 1) := by decide +kernel
theorem zd_Q_add_29 : decode zb_Q_add 29 = .ok (.aload_n 1, 1) := by decide +kernel
theorem zd_Q_add_30 : decode zb_Q_add 30 = .ok (.putfield 13, 3) := by decide +kernel
theorem zd_Q_add_33 : decode zb_Q_add 33 = .ok (.aload_n 0, 1) := by decide +kernel
theorem zd_Q_add_34 : decode zb_Q_add 34 = .ok (.dup, 1) := by decide +kernel
theorem zd_Q_add_35 : decode zb_Q_add 35 = .ok (.getfield 16, 3) := by decide +kernel
theorem zd_Q_add_38 : decode zb_Q_add 38 = .ok (.aload_n 1, 1) := by decide +kernel
theorem zd_Q_add_39 : decode zb_Q_add 39 = .ok (.getfield 25, 3) := by decide +kernel
theorem zd_Q_add_42 : decode zb_Q_add 42 = .ok (.iadd, 1) := by decide +kernel
theorem zd_Q_add_43 : decode zb_Q_add 43 = .ok (.putfield 16, 3) := by decide +kernel
theorem zd_Q_add_46 : decode zb_Q_add 46 = .ok (.return_, 1) := by decide +kernel
theorem zd_X_tick_0 : decode zb_X_tick 0 = .ok (.iload_n 1, 1) := by decide +kernel
theorem zd_X_tick_1 : decode zb_X_tick 1 = .ok (.iconst 1, 1) := by decide +kernel
theorem zd_X_tick_2 : decode zb_X_tick 2 = .ok (.if_icmp .lt 9, 3) := by decide +kernel
theorem zd_X_tick_5 : decode zb_X_tick 5 = .ok (.iload_n 1, 1) := by decide +kernel
theorem zd_X_tick_6 : decode zb_X_tick 6 = .ok (.bipush 20, 2) := by decide +kernel
theorem zd_X_tick_8 : decode zb_X_tick 8 = .ok (.if_icmp .le 5, 3) := by decide +kernel
theorem zd_X_tick_11 : decode zb_X_tick 11 = .ok (.iconst (-1), 1) := by decide +kernel
theorem zd_X_tick_12 : decode zb_X_tick 12 = .ok (.ireturn, 1) := by decide +kernel
theorem zd_X_tick_13 : decode zb_X_tick 13 = .ok (.iconst 0, 1) := by decide +kernel
theorem zd_X_tick_14 : decode zb_X_tick 14 = .ok (.istore_n 2, 1) := by decide +kernel
theorem zd_X_tick_15 : decode zb_X_tick 15 = .ok (.iconst 0, 1) := by decide +kernel
theorem zd_X_tick_16 : decode zb_X_tick 16 = .ok (.istore_n 3, 1) := by decide +kernel
theorem zd_X_tick_17 : decode zb_X_tick 17 = .ok (.iload_n 3, 1) := by decide +kernel
theorem zd_X_tick_18 : decode zb_X_tick 18 = .ok (.iload_n 1, 1) := by decide +kernel
theorem zd_X_tick_19 : decode zb_X_tick 19 = .ok (.if_icmp .ge 16, 3) := by decide +kernel
theorem zd_X_tick_22 : decode zb_X_tick 22 = .ok (.iload_n 2, 1) := by decide +kernel
theorem zd_X_tick_23 : decode zb_X_tick 23 = .ok (.aload_n 0, 1) := by decide +kernel
theorem zd_X_tick_24 : decode zb_X_tick 24 = .ok (.invokevirtual 84, 3) := by decide +kernel
theorem zd_X_tick_27 : decode zb_X_tick 27 = .ok (.iadd, 1) := by decide +kernel
theorem zd_X_tick_28 : decode zb_X_tick 28 = .ok (.istore_n 2, 1) := by decide +kernel
theorem zd_X_tick_29 : decode zb_X_tick 29 = .ok (.iinc 3 1, 3) := by decide +kernel
theorem zd_X_tick_32 : decode zb_X_tick 32 = .ok (.goto (-15), 3) := by decide +kernel
theorem zd_X_tick_35 : decode zb_X_tick 35 = .ok (.iload_n 2, 1) := by decide +kernel
theorem zd_X_tick_36 : decode zb_X_tick 36 = .ok (.ireturn, 1) := by decide +kernel
theorem zd_X_makeTick_0 : decode zb_X_makeTick 0 = .ok (.aload_n 0, 1) := by decide +kernel
theorem zd_X_makeTick_1 : decode zb_X_makeTick 1 = .ok (.dup, 1) := by decide +kernel
theorem zd_X_makeTick_2 : decode zb_X_makeTick 2 = .ok (.getfield 40, 3) := by decide +kernel
theorem zd_X_makeTick_5 : decode zb_X_makeTick 5 = .ok (.iconst 1, 1) := by decide +kernel
theorem zd_X_makeTick_6 : decode zb_X_makeTick 6 = .ok (.iadd, 1) := by decide +kernel
theorem zd_X_makeTick_7 : decode zb_X_makeTick 7 = .ok (.putfield 40, 3) := by decide +kernel
theorem zd_X_makeTick_10 : decode zb_X_makeTick 10 = .ok (.aload_n 0, 1) := by decide +kernel
theorem zd_X_makeTick_11 : decode zb_X_makeTick 11 = .ok (.getfield 17, 3) := by decide +kernel
theorem zd_X_makeTick_14 : decode zb_X_makeTick 14 = .ok (.astore_n 1, 1) := by decide +kernel
theorem zd_X_makeTick_15 : decode zb_X_makeTick 15 = .ok (.aload_n 1, 1) := by decide +kernel
theorem zd_X_makeTick_16 : decode zb_X_makeTick 16 = .ok (.arraylength, 1) := by decide +kernel
theorem zd_X_makeTick_17 : decode zb_X_makeTick 17 = .ok (.istore_n 2, 1) := by decide +kernel
theorem zd_X_makeTick_18 : decode zb_X_makeTick 18 = .ok (.iconst 0, 1) := by decide +kernel
theorem zd_X_makeTick_19 : decode zb_X_makeTick 19 = .ok (.istore_n 3, 1) := by decide +kernel
theorem zd_X_makeTick_20 : decode zb_X_makeTick 20 = .ok (.iload_n 3, 1) := by decide +kernel
theorem zd_X_makeTick_21 : decode zb_X_makeTick 21 = .ok (.iload_n 2, 1) := by decide +kernel
theorem zd_X_makeTick_22 : decode zb_X_makeTick 22 = .ok (.if_icmp .ge 28, 3) := by decide +kernel
theorem zd_X_makeTick_25 : decode zb_X_makeTick 25 = .ok (.aload_n 1, 1) := by decide +kernel
theorem zd_X_makeTick_26 : decode zb_X_makeTick 26 = .ok (.iload_n 3, 1) := by decide +kernel
theorem zd_X_makeTick_27 : decode zb_X_makeTick 27 = .ok (.aaload, 1) := by decide +kernel
theorem zd_X_makeTick_28 : decode zb_X_makeTick 28 = .ok (.astore 4, 2) := by decide +kernel
theorem zd_X_makeTick_30 : decode zb_X_makeTick 30 = .ok (.aload 4, 2) := by decide +kernel
theorem zd_X_makeTick_32 : decode zb_X_makeTick 32 = .ok (.aload_n 0, 1) := by decide +kernel
theorem zd_X_makeTick_33 : decode zb_X_makeTick 33 = .ok (.aload 4, 2) := by decide +kernel
theorem zd_X_makeTick_35 : decode zb_X_makeTick 35 = .ok (.getfield 172, 3) := by decide +kernel
theorem zd_X_makeTick_38 : decode zb_X_makeTick 38 = .ok (.invokevirtual 175, 3) := by decide +kernel
theorem zd_X_makeTick_41 : decode zb_X_makeTick 41 = .ok (.putfield 123, 3) := by decide +kernel
theorem zd_X_makeTick_44 : decode zb_X_makeTick 44 = .ok (.iinc 3 1, 3) := by decide +kernel
theorem zd_X_makeTick_47 : decode zb_X_makeTick 47 = .ok (.goto (-27), 3) := by decide +kernel
theorem zd_X_makeTick_50 : decode zb_X_makeTick 50 = .ok (.aload_n 0, 1) := by decide +kernel
theorem zd_X_makeTick_51 : decode zb_X_makeTick 51 = .ok (.getfield 17, 3) := by decide +kernel
theorem zd_X_makeTick_54 : decode zb_X_makeTick 54 = .ok (.astore_n 1, 1) := by decide +kernel
theorem zd_X_makeTick_55 : decode zb_X_makeTick 55 = .ok (.aload_n 1, 1) := by decide +kernel
theorem zd_X_makeTick_56 : decode zb_X_makeTick 56 = .ok (.arraylength, 1) := by decide +kernel
theorem zd_X_makeTick_57 : decode zb_X_makeTick 57 = .ok (.istore_n 2, 1) := by decide +kernel
theorem zd_X_makeTick_58 : decode zb_X_makeTick 58 = .ok (.iconst 0, 1) := by decide +kernel
theorem zd_X_makeTick_59 : decode zb_X_makeTick 59 = .ok (.istore_n 3, 1) := by decide +kernel
theorem zd_X_makeTick_60 : decode zb_X_makeTick 60 = .ok (.iload_n 3, 1) := by decide +kernel
theorem zd_X_makeTick_61 : decode zb_X_makeTick 61 = .ok (.iload_n 2, 1) := by decide +kernel
theorem zd_X_makeTick_62 : decode zb_X_makeTick 62 = .ok (.if_icmp .ge 20, 3) := by decide +kernel
theorem zd_X_makeTick_65 : decode zb_X_makeTick 65 = .ok (.aload_n 1, 1) := by decide +kernel
theorem zd_X_makeTick_66 : decode zb_X_makeTick 66 = .ok (.iload_n 3, 1) := by decide +kernel
theorem zd_X_makeTick_67 : decode zb_X_makeTick 67 = .ok (.aaload, 1) := by decide +kernel
theorem zd_X_makeTick_68 : decode zb_X_makeTick 68 = .ok (.astore 4, 2) := by decide +kernel
theorem zd_X_makeTick_70 : decode zb_X_makeTick 70 = .ok (.aload_n 0, 1) := by decide +kernel
theorem zd_X_makeTick_71 : decode zb_X_makeTick 71 = .ok (.aload 4, 2) := by decide +kernel
theorem zd_X_makeTick_73 : decode zb_X_makeTick 73 = .ok (.invokevirtual 178, 3) := by decide +kernel
theorem zd_X_makeTick_76 : decode zb_X_makeTick 76 = .ok (.iinc 3 1, 3) := by decide +kernel
theorem zd_X_makeTick_79 : decode zb_X_makeTick 79 = .ok (.goto (-19), 3) := by decide +kernel
theorem zd_X_makeTick_82 : decode zb_X_makeTick 82 = .ok (.iconst 0, 1) := by decide +kernel
theorem zd_X_makeTick_83 : decode zb_X_makeTick 83 = .ok (.istore_n 1, 1) := by decide +kernel
theorem zd_X_makeTick_84 : decode zb_X_makeTick 84 = .ok (.iload_n 1, 1) := by decide +kernel
theorem zd_X_makeTick_85 : decode zb_X_makeTick 85 = .ok (.aload_n 0, 1) := by decide +kernel
theorem zd_X_makeTick_86 : decode zb_X_makeTick 86 = .ok (.getfield 33, 3) := by decide +kernel
theorem zd_X_makeTick_89 : decode zb_X_makeTick 89 = .ok (.if_icmp .ge 31, 3) := by decide +kernel
theorem zd_X_makeTick_92 : decode zb_X_makeTick 92 = .ok (.aload_n 0, 1) := by decide +kernel
theorem zd_X_makeTick_93 : decode zb_X_makeTick 93 = .ok (.getfield 23, 3) := by decide +kernel
theorem zd_X_makeTick_96 : decode zb_X_makeTick 96 = .ok (.iload_n 1, 1) := by decide +kernel
theorem zd_X_makeTick_97 : decode zb_X_makeTick 97 = .ok (.aaload, 1) := by decide +kernel
theorem zd_X_makeTick_98 : decode zb_X_makeTick 98 = .ok (.aload_n 0, 1) := by decide +kernel
theorem zd_X_makeTick_99 : decode zb_X_makeTick 99 = .ok (.aload_n 0, 1) := by decide +kernel
theorem zd_X_makeTick_100 : decode zb_X_makeTick 100 = .ok (.getfield 23, 3) := by decide +kernel
theorem zd_X_makeTick_103 : decode zb_X_makeTick 103 = .ok (.iload_n 1, 1) := by decide +kernel
theorem zd_X_makeTick_104 : decode zb_X_makeTick 104 = .ok (.aaload, 1) := by decide +kernel
theorem zd_X_makeTick_105 : decode zb_X_makeTick 105 = .ok (.getfield 182, 3) := by decide +kernel
theorem zd_X_makeTick_108 : decode zb_X_makeTick 108 = .ok (.invokevirtual 175, 3) := by decide +kernel
theorem zd_X_makeTick_111 : decode zb_X_makeTick 111 = .ok (.invokevirtual 185, 3) := by decide +kernel
theorem zd_X_makeTick_114 : decode zb_X_makeTick 114 = .ok (.iinc 1 1, 3) := by decide +kernel
theorem zd_X_makeTick_117 : decode zb_X_makeTick 117 = .ok (.goto (-33), 3) := by decide +kernel
theorem zd_X_makeTick_120 : decode zb_X_makeTick 120 = .ok (.iconst 0, 1) := by decide +kernel
theorem zd_X_makeTick_121 : decode zb_X_makeTick 121 = .ok (.istore_n 1, 1) := by decide +kernel
theorem zd_X_makeTick_122 : decode zb_X_makeTick 122 = .ok (.aload_n 0, 1) := by decide +kernel
theorem zd_X_makeTick_123 : decode zb_X_makeTick 123 = .ok (.getfield 17, 3) := by decide +kernel
theorem zd_X_makeTick_126 : decode zb_X_makeTick 126 = .ok (.astore_n 2, 1) := by decide +kernel
theorem zd_X_makeTick_127 : decode zb_X_makeTick 127 = .ok (.aload_n 2, 1) := by decide +kernel
theorem zd_X_makeTick_128 : decode zb_X_makeTick 128 = .ok (.arraylength, 1) := by decide +kernel
theorem zd_X_makeTick_129 : decode zb_X_makeTick 129 = .ok (.istore_n 3, 1) := by decide +kernel
theorem zd_X_makeTick_130 : decode zb_X_makeTick 130 = .ok (.iconst 0, 1) := by decide +kernel
theorem zd_X_makeTick_131 : decode zb_X_makeTick 131 = .ok (.istore 4, 2) := by decide +kernel
theorem zd_X_makeTick_133 : decode zb_X_makeTick 133 = .ok (.iload 4, 2) := by decide +kernel
theorem zd_X_makeTick_135 : decode zb_X_makeTick 135 = .ok (.iload_n 3, 1) := by decide +kernel
theorem zd_X_makeTick_136 : decode zb_X_makeTick 136 = .ok (.if_icmp .ge 24, 3) := by decide +kernel
theorem zd_X_makeTick_139 : decode zb_X_makeTick 139 = .ok (.aload_n 2, 1) := by decide +kernel
theorem zd_X_makeTick_140 : decode zb_X_makeTick 140 = .ok (.iload 4, 2) := by decide +kernel
theorem zd_X_makeTick_142 : decode zb_X_makeTick 142 = .ok (.aaload, 1) := by decide +kernel
theorem zd_X_makeTick_143 : decode zb_X_makeTick 143 = .ok (.astore 5, 2) := by decide +kernel
theorem zd_X_makeTick_145 : decode zb_X_makeTick 145 = .ok (.iload_n 1, 1) := by decide +kernel
theorem zd_X_makeTick_146 : decode zb_X_makeTick 146 = .ok (.aload_n 0, 1) := by decide +kernel
theorem zd_X_makeTick_147 : decode zb_X_makeTick 147 = .ok (.aload 5, 2) := by decide +kernel
theorem zd_X_makeTick_149 : decode zb_X_makeTick 149 = .ok (.invokevirtual 189, 3) := by decide +kernel
theorem zd_X_makeTick_152 : decode zb_X_makeTick 152 = .ok (.iadd, 1) := by decide +kernel
theorem zd_X_makeTick_153 : decode zb_X_makeTick 153 = .ok (.istore_n 1, 1) := by decide +kernel
theorem zd_X_makeTick_154 : decode zb_X_makeTick 154 = .ok (.iinc 4 1, 3) := by decide +kernel
theorem zd_X_makeTick_157 : decode zb_X_makeTick 157 = .ok (.goto (-24), 3) := by decide +kernel
theorem zd_X_makeTick_160 : decode zb_X_makeTick 160 = .ok (.aload_n 0, 1) := by decide +kernel
theorem zd_X_makeTick_161 : decode zb_X_makeTick 161 = .ok (.getfield 17, 3) := by decide +kernel
theorem zd_X_makeTick_164 : decode zb_X_makeTick 164 = .ok (.astore_n 2, 1) := by decide +kernel
theorem zd_X_makeTick_165 : decode zb_X_makeTick 165 = .ok (.aload_n 2, 1) := by decide +kernel
theorem zd_X_makeTick_166 : decode zb_X_makeTick 166 = .ok (.arraylength, 1) := by decide +kernel
theorem zd_X_makeTick_167 : decode zb_X_makeTick 167 = .ok (.istore_n 3, 1) := by decide +kernel
theorem zd_X_makeTick_168 : decode zb_X_makeTick 168 = .ok (.iconst 0, 1) := by decide +kernel
theorem zd_X_makeTick_169 : decode zb_X_makeTick 169 = .ok (.istore 4, 2) := by decide +kernel
theorem zd_X_makeTick_171 : decode zb_X_makeTick 171 = .ok (.iload 4, 2) := by decide +kernel
theorem zd_X_makeTick_173 : decode zb_X_makeTick 173 = .ok (.iload_n 3, 1) := by decide +kernel
theorem zd_X_makeTick_174 : decode zb_X_makeTick 174 = .ok (.if_icmp .ge 21, 3) := by decide +kernel
theorem zd_X_makeTick_177 : decode zb_X_makeTick 177 = .ok (.aload_n 2, 1) := by decide +kernel
theorem zd_X_makeTick_178 : decode zb_X_makeTick 178 = .ok (.iload 4, 2) := by decide +kernel
theorem zd_X_makeTick_180 : decode zb_X_makeTick 180 = .ok (.aaload, 1) := by decide +kernel
theorem zd_X_makeTick_181 : decode zb_X_makeTick 181 = .ok (.astore 5, 2) := by decide +kernel
theorem zd_X_makeTick_183 : decode zb_X_makeTick 183 = .ok (.aload_n 0, 1) := by decide +kernel
theorem zd_X_makeTick_184 : decode zb_X_makeTick 184 = .ok (.aload 5, 2) := by decide +kernel
theorem zd_X_makeTick_186 : decode zb_X_makeTick 186 = .ok (.invokevirtual 193, 3) := by decide +kernel
theorem zd_X_makeTick_189 : decode zb_X_makeTick 189 = .ok (.iinc 4 1, 3) := by decide +kernel
theorem zd_X_makeTick_192 : decode zb_X_makeTick 192 = .ok (.goto (-21), 3) := by decide +kernel
theorem zd_X_makeTick_195 : decode zb_X_makeTick 195 = .ok (.aload_n 0, 1) := by decide +kernel
theorem zd_X_makeTick_196 : decode zb_X_makeTick 196 = .ok (.invokevirtual 196, 3) := by decide +kernel
theorem zd_X_makeTick_199 : decode zb_X_makeTick 199 = .ok (.iload_n 1, 1) := by decide +kernel
theorem zd_X_makeTick_200 : decode zb_X_makeTick 200 = .ok (.ireturn, 1) := by decide +kernel
theorem zd_X_wasSo_0 : decode zb_X_wasSo 0 = .ok (.iload_n 1, 1) := by decide +kernel
theorem zd_X_wasSo_1 : decode zb_X_wasSo 1 = .ok (.aload_n 0, 1) := by decide +kernel
theorem zd_X_wasSo_2 : decode zb_X_wasSo 2 = .ok (.getfield 47, 3) := by decide +kernel
theorem zd_X_wasSo_5 : decode zb_X_wasSo 5 = .ok (.iconst 1, 1) := by decide +kernel
theorem zd_X_wasSo_6 : decode zb_X_wasSo 6 = .ok (.isub, 1) := by decide +kernel
theorem zd_X_wasSo_7 : decode zb_X_wasSo 7 = .ok (.ishr, 1) := by decide +kernel
theorem zd_X_wasSo_8 : decode zb_X_wasSo 8 = .ok (.iconst 1, 1) := by decide +kernel
theorem zd_X_wasSo_9 : decode zb_X_wasSo 9 = .ok (.iand, 1) := by decide +kernel
theorem zd_X_wasSo_10 : decode zb_X_wasSo 10 = .ok (.iconst 1, 1) := by decide +kernel
theorem zd_X_wasSo_11 : decode zb_X_wasSo 11 = .ok (.if_icmp .ne 7, 3) := by decide +kernel
theorem zd_X_wasSo_14 : decode zb_X_wasSo 14 = .ok (.iconst 1, 1) := by decide +kernel
theorem zd_X_wasSo_15 : decode zb_X_wasSo 15 = .ok (.goto 4, 3) := by decide +kernel
theorem zd_X_wasSo_18 : decode zb_X_wasSo 18 = .ok (.iconst 0, 1) := by decide +kernel
theorem zd_X_wasSo_19 : decode zb_X_wasSo 19 = .ok (.ireturn, 1) := by decide +kernel
theorem zd_X_endSending_0 : decode zb_X_endSending 0 = .ok (.aload_n 1, 1) := by decide +kernel
theorem zd_X_endSending_1 : decode zb_X_endSending 1 = .ok (.getfield 206, 3) := by decide +kernel
theorem zd_X_endSending_4 : decode zb_X_endSending 4 = .ok (.astore_n 2, 1) := by decide +kernel
theorem zd_X_endSending_5 : decode zb_X_endSending 5 = .ok (.aload_n 2, 1) := by decide +kernel
theorem zd_X_endSending_6 : decode zb_X_endSending 6 = .ok (.ifnull 14, 3) := by decide +kernel
theorem zd_X_endSending_9 : decode zb_X_endSending 9 = .ok (.aload_n 2, 1) := by decide +kernel
theorem zd_X_endSending_10 : decode zb_X_endSending 10 = .ok (.getfield 210, 3) := by decide +kernel
theorem zd_X_endSending_13 : decode zb_X_endSending 13 = .ok (.aload_n 0, 1) := by decide +kernel
theorem zd_X_endSending_14 : decode zb_X_endSending 14 = .ok (.getfield 40, 3) := by decide +kernel
theorem zd_X_endSending_17 : decode zb_X_endSending 17 = .ok (.if_icmp .eq 4, 3) := by decide +kernel
theorem zd_X_endSending_20 : decode zb_X_endSending 20 = .ok (.return_, 1) := by decide +kernel
theorem zd_X_endSending_21 : decode zb_X_endSending 21 = .ok (.aload_n 1, 1) := by decide +kernel
theorem zd_X_endSending_22 : decode zb_X_endSending 22 = .ok (.aconst_null, 1) := by decide +kernel
theorem zd_X_endSending_23 : decode zb_X_endSending 23 = .ok (.putfield 206, 3) := by decide +kernel
theorem zd_X_endSending_26 : decode zb_X_endSending 26 = .ok (.aload_n 2, 1) := by decide +kernel
theorem zd_X_endSending_27 : decode zb_X_endSending 27 = .ok (.iconst 3, 1) := by decide +kernel
theorem zd_X_endSending_28 : decode zb_X_endSending 28 = .ok (.putfield 92, 3) := by decide +kernel
theorem zd_X_endSending_31 : decode zb_X_endSending 31 = .ok (.aload_n 2, 1) := by decide +kernel
theorem zd_X_endSending_32 : decode zb_X_endSending 32 = .ok (.aload_n 0, 1) := by decide +kernel
theorem zd_X_endSending_33 : decode zb_X_endSending 33 = .ok (.getfield 40, 3) := by decide +kernel
theorem zd_X_endSending_36 : decode zb_X_endSending 36 = .ok (.aload_n 0, 1) := by decide +kernel
theorem zd_X_endSending_37 : decode zb_X_endSending 37 = .ok (.getfield 47, 3) := by decide +kernel
theorem zd_X_endSending_40 : decode zb_X_endSending 40 = .ok (.iadd, 1) := by decide +kernel
theorem zd_X_endSending_41 : decode zb_X_endSending 41 = .ok (.putfield 210, 3) := by decide +kernel
theorem zd_X_endSending_44 : decode zb_X_endSending 44 = .ok (.aload_n 1, 1) := by decide +kernel
theorem zd_X_endSending_45 : decode zb_X_endSending 45 = .ok (.getfield 213, 3) := by decide +kernel
theorem zd_X_endSending_48 : decode zb_X_endSending 48 = .ok (.aload_n 2, 1) := by decide +kernel
theorem zd_X_endSending_49 : decode zb_X_endSending 49 = .ok (.invokevirtual 217, 3) := by decide +kernel
theorem zd_X_endSending_52 : decode zb_X_endSending 52 = .ok (.aload_n 2, 1) := by decide +kernel
theorem zd_X_endSending_53 : decode zb_X_endSending 53 = .ok (.getfield 221, 3) := by decide +kernel
theorem zd_X_endSending_56 : decode zb_X_endSending 56 = .ok (.ifnull 12, 3) := by decide +kernel
theorem zd_X_endSending_59 : decode zb_X_endSending 59 = .ok (.aload_n 0, 1) := by decide +kernel
theorem zd_X_endSending_60 : decode zb_X_endSending 60 = .ok (.aload_n 2, 1) := by decide +kernel
theorem zd_X_endSending_61 : decode zb_X_endSending 61 = .ok (.aload_n 2, 1) := by decide +kernel
theorem zd_X_endSending_62 : decode zb_X_endSending 62 = .ok (.getfield 221, 3) := by decide +kernel
theorem zd_X_endSending_65 : decode zb_X_endSending 65 = .ok (.invokevirtual 225, 3) := by decide +kernel
theorem zd_X_endSending_68 : decode zb_X_endSending 68 = .ok (.return_, 1) := by decide +kernel
theorem zd_X_release_0 : decode zb_X_release 0 = .ok (.aload_n 1, 1) := by decide +kernel
theorem zd_X_release_1 : decode zb_X_release 1 = .ok (.getfield 229, 3) := by decide +kernel
theorem zd_X_release_4 : decode zb_X_release 4 = .ok (.getfield 233, 3) := by decide +kernel
theorem zd_X_release_7 : decode zb_X_release 7 = .ok (.istore_n 3, 1) := by decide +kernel
theorem zd_X_release_8 : decode zb_X_release 8 = .ok (.aload_n 2, 1) := by decide +kernel
theorem zd_X_release_9 : decode zb_X_release 9 = .ok (.getfield 117, 3) := by decide +kernel
theorem zd_X_release_12 : decode zb_X_release 12 = .ok (.iload_n 3, 1) := by decide +kernel
theorem zd_X_release_13 : decode zb_X_release 13 = .ok (.dup2, 1) := by decide +kernel
theorem zd_X_release_14 : decode zb_X_release 14 = .ok (.iaload, 1) := by decide +kernel
theorem zd_X_release_15 : decode zb_X_release 15 = .ok (.aload_n 1, 1) := by decide +kernel
theorem zd_X_release_16 : decode zb_X_release 16 = .ok (.getfield 236, 3) := by decide +kernel
theorem zd_X_release_19 : decode zb_X_release 19 = .ok (.isub, 1) := by decide +kernel
theorem zd_X_release_20 : decode zb_X_release 20 = .ok (.iastore, 1) := by decide +kernel
theorem zd_X_release_21 : decode zb_X_release 21 = .ok (.iload_n 3, 1) := by decide +kernel
theorem zd_X_release_22 : decode zb_X_release 22 = .ok (.ifCond .ne 23, 3) := by decide +kernel
theorem zd_X_release_25 : decode zb_X_release 25 = .ok (.aload_n 2, 1) := by decide +kernel
theorem zd_X_release_26 : decode zb_X_release 26 = .ok (.getfield 117, 3) := by decide +kernel
theorem zd_X_release_29 : decode zb_X_release 29 = .ok (.iconst 0, 1) := by decide +kernel
theorem zd_X_release_30 : decode zb_X_release 30 = .ok (.iaload, 1) := by decide +kernel
theorem zd_X_release_31 : decode zb_X_release 31 = .ok (.aload_n 0, 1) := by decide +kernel
theorem zd_X_release_32 : decode zb_X_release 32 = .ok (.getfield 50, 3) := by decide +kernel
theorem zd_X_release_35 : decode zb_X_release 35 = .ok (.iconst 2, 1) := by decide +kernel
theorem zd_X_release_36 : decode zb_X_release 36 = .ok (.idiv, 1) := by decide +kernel
theorem zd_X_release_37 : decode zb_X_release 37 = .ok (.if_icmp .gt 8, 3) := by decide +kernel
theorem zd_X_release_40 : decode zb_X_release 40 = .ok (.aload_n 2, 1) := by decide +kernel
theorem zd_X_release_41 : decode zb_X_release 41 = .ok (.iconst 0, 1) := by decide +kernel
theorem zd_X_release_42 : decode zb_X_release 42 = .ok (.putfield 120, 3) := by decide +kernel
theorem zd_X_release_45 : decode zb_X_release 45 = .ok (.return_, 1) := by decide +kernel
theorem zd_F_adjustRate_0 : decode zb_F_adjustRate 0 = .ok (.iload_n 1, 1) := by decide +kernel
theorem zd_F_adjustRate_1 : decode zb_F_adjustRate 1 = .ok (.ifCond .eq 8, 3) := by decide +kernel
theorem zd_F_adjustRate_4 : decode zb_F_adjustRate 4 = .ok (.aload_n 0, 1) := by decide +kernel
theorem zd_F_adjustRate_5 : decode zb_F_adjustRate 5 = .ok (.invokevirtual 50, 3) := by decide +kernel
theorem zd_F_adjustRate_8 : decode zb_F_adjustRate 8 = .ok (.return_, 1) := by decide +kernel
theorem zd_F_adjustRate_9 : decode zb_F_adjustRate 9 = .ok (.aload_n 0, 1) := by decide +kernel
theorem zd_F_adjustRate_10 : decode zb_F_adjustRate 10 = .ok (.dup, 1) := by decide +kernel
theorem zd_F_adjustRate_11 : decode zb_F_adjustRate 11 = .ok (.getfield 21, 3) := by decide +kernel
theorem zd_F_adjustRate_14 : decode zb_F_adjustRate 14 = .ok (.iconst 1, 1) := by decide +kernel
theorem zd_F_adjustRate_15 : decode zb_F_adjustRate 15 = .ok (.iadd, 1) := by decide +kernel
theorem zd_F_adjustRate_16 : decode zb_F_adjustRate 16 = .ok (.putfield 21, 3) := by decide +kernel
theorem zd_F_adjustRate_19 : decode zb_F_adjustRate 19 = .ok (.aload_n 0, 1) := by decide +kernel
theorem zd_F_adjustRate_20 : decode zb_F_adjustRate 20 = .ok (.getfield 21, 3) := by decide +kernel
theorem zd_F_adjustRate_23 : decode zb_F_adjustRate 23 = .ok (.bipush 16, 2) := by decide +kernel
theorem zd_F_adjustRate_25 : decode zb_F_adjustRate 25 = .ok (.if_icmp .ne 7, 3) := by decide +kernel
theorem zd_F_adjustRate_28 : decode zb_F_adjustRate 28 = .ok (.aload_n 0, 1) := by decide +kernel
theorem zd_F_adjustRate_29 : decode zb_F_adjustRate 29 = .ok (.invokevirtual 53, 3) := by decide +kernel
theorem zd_F_adjustRate_32 : decode zb_F_adjustRate 32 = .ok (.return_, 1) := by decide +kernel
theorem zd_F_slowDown_0 : decode zb_F_slowDown 0 = .ok (.aload_n 0, 1) := by decide +kernel
theorem zd_F_slowDown_1 : decode zb_F_slowDown 1 = .ok (.aload_n 0, 1) := by decide +kernel
theorem zd_F_slowDown_2 : decode zb_F_slowDown 2 = .ok (.getfield 9, 3) := by decide +kernel
theorem zd_F_slowDown_5 : decode zb_F_slowDown 5 = .ok (.putfield 15, 3) := by decide +kernel
theorem zd_F_slowDown_8 : decode zb_F_slowDown 8 = .ok (.aload_n 0, 1) := by decide +kernel
theorem zd_F_slowDown_9 : decode zb_F_slowDown 9 = .ok (.iconst 1, 1) := by decide +kernel
theorem zd_F_slowDown_10 : decode zb_F_slowDown 10 = .ok (.aload_n 0, 1) := by decide +kernel
theorem zd_F_slowDown_11 : decode zb_F_slowDown 11 = .ok (.getfield 9, 3) := by decide +kernel
theorem zd_F_slowDown_14 : decode zb_F_slowDown 14 = .ok (.aload_n 0, 1) := by decide +kernel
theorem zd_F_slowDown_15 : decode zb_F_slowDown 15 = .ok (.getfield 9, 3) := by decide +kernel
theorem zd_F_slowDown_18 : decode zb_F_slowDown 18 = .ok (.aload_n 0, 1) := by decide +kernel
theorem zd_F_slowDown_19 : decode zb_F_slowDown 19 = .ok (.getfield 18, 3) := by decide +kernel
theorem zd_F_slowDown_22 : decode zb_F_slowDown 22 = .ok (.imul, 1) := by decide +kernel
theorem zd_F_slowDown_23 : decode zb_F_slowDown 23 = .ok (.sipush 128, 3) := by decide +kernel
theorem zd_F_slowDown_26 : decode zb_F_slowDown 26 = .ok (.idiv, 1) := by decide +kernel
theorem zd_F_slowDown_27 : decode zb_F_slowDown 27 = .ok (.isub, 1) := by decide +kernel
theorem zd_F_slowDown_28 : decode zb_F_slowDown 28 = .ok (.invokestatic 56, 3) := by decide +kernel
theorem zd_F_slowDown_31 : decode zb_F_slowDown 31 = .ok (.putfield 9, 3) := by decide +kernel
theorem zd_F_slowDown_34 : decode zb_F_slowDown 34 = .ok (.aload_n 0, 1) := by decide +kernel
theorem zd_F_slowDown_35 : decode zb_F_slowDown 35 = .ok (.bipush 15, 2) := by decide +kernel
theorem zd_F_slowDown_37 : decode zb_F_slowDown 37 = .ok (.aload_n 0, 1) := by decide +kernel
theorem zd_F_slowDown_38 : decode zb_F_slowDown 38 = .ok (.getfield 18, 3) := by decide +kernel
theorem zd_F_slowDown_41 : decode zb_F_slowDown 41 = .ok (.imul, 1) := by decide +kernel
theorem zd_F_slowDown_42 : decode zb_F_slowDown 42 = .ok (.bipush 64, 2) := by decide +kernel
theorem zd_F_slowDown_44 : decode zb_F_slowDown 44 = .ok (.iadd, 1) := by decide +kernel
theorem zd_F_slowDown_45 : decode zb_F_slowDown 45 = .ok (.bipush 16, 2) := by decide +kernel
theorem zd_F_slowDown_47 : decode zb_F_slowDown 47 = .ok (.idiv, 1) := by decide +kernel
theorem zd_F_slowDown_48 : decode zb_F_slowDown 48 = .ok (.putfield 18, 3) := by decide +kernel
theorem zd_F_slowDown_51 : decode zb_F_slowDown 51 = .ok (.aload_n 0, 1) := by decide +kernel
theorem zd_F_slowDown_52 : decode zb_F_slowDown 52 = .ok (.iconst 0, 1) := by decide +kernel
theorem zd_F_slowDown_53 : decode zb_F_slowDown 53 = .ok (.putfield 21, 3) := by decide +kernel
theorem zd_F_slowDown_56 : decode zb_F_slowDown 56 = .ok (.return_, 1) := by decide +kernel
theorem zd_F_recover_0 : decode zb_F_recover 0 = .ok (.aload_n 0, 1) := by decide +kernel
theorem zd_F_recover_1 : decode zb_F_recover 1 = .ok (.iconst 0, 1) := by decide +kernel
theorem zd_F_recover_2 : decode zb_F_recover 2 = .ok (.putfield 21, 3) := by decide +kernel
theorem zd_F_recover_5 : decode zb_F_recover 5 = .ok (.aload_n 0, 1) := by decide +kernel
theorem zd_F_recover_6 : decode zb_F_recover 6 = .ok (.bipush 15, 2) := by decide +kernel
theorem zd_F_recover_8 : decode zb_F_recover 8 = .ok (.aload_n 0, 1) := by decide +kernel
theorem zd_F_recover_9 : decode zb_F_recover 9 = .ok (.getfield 18, 3) := by decide +kernel
theorem zd_F_recover_12 : decode zb_F_recover 12 = .ok (.imul, 1) := by decide +kernel
theorem zd_F_recover_13 : decode zb_F_recover 13 = .ok (.bipush 16, 2) := by decide +kernel
theorem zd_F_recover_15 : decode zb_F_recover 15 = .ok (.idiv, 1) := by decide +kernel
theorem zd_F_recover_16 : decode zb_F_recover 16 = .ok (.putfield 18, 3) := by decide +kernel
theorem zd_F_recover_19 : decode zb_F_recover 19 = .ok (.aload_n 0, 1) := by decide +kernel
theorem zd_F_recover_20 : decode zb_F_recover 20 = .ok (.aload_n 0, 1) := by decide +kernel
theorem zd_F_recover_21 : decode zb_F_recover 21 = .ok (.getfield 9, 3) := by decide +kernel
theorem zd_F_recover_24 : decode zb_F_recover 24 = .ok (.aload_n 0, 1) := by decide +kernel
theorem zd_F_recover_25 : decode zb_F_recover 25 = .ok (.getfield 15, 3) := by decide +kernel
theorem zd_F_recover_28 : decode zb_F_recover 28 = .ok (.iadd, 1) := by decide +kernel
theorem zd_F_recover_29 : decode zb_F_recover 29 = .ok (.iconst 1, 1) := by decide +kernel
theorem zd_F_recover_30 : decode zb_F_recover 30 = .ok (.iadd, 1) := by decide +kernel
theorem zd_F_recover_31 : decode zb_F_recover 31 = .ok (.iconst 2, 1) := by decide +kernel
theorem zd_F_recover_32 : decode zb_F_recover 32 = .ok (.idiv, 1) := by decide +kernel
theorem zd_F_recover_33 : decode zb_F_recover 33 = .ok (.putfield 9, 3) := by decide +kernel
theorem zd_F_recover_36 : decode zb_F_recover 36 = .ok (.return_, 1) := by decide +kernel
theorem zd_X_deliver_0 : decode zb_X_deliver 0 = .ok (.aload_n 1, 1) := by decide +kernel
theorem zd_X_deliver_1 : decode zb_X_deliver 1 = .ok (.getfield 213, 3) := by decide +kernel
theorem zd_X_deliver_4 : decode zb_X_deliver 4 = .ok (.getfield 237, 3) := by decide +kernel
theorem zd_X_deliver_7 : decode zb_X_deliver 7 = .ok (.astore_n 2, 1) := by decide +kernel
theorem zd_X_deliver_8 : decode zb_X_deliver 8 = .ok (.aload_n 2, 1) := by decide +kernel
theorem zd_X_deliver_9 : decode zb_X_deliver 9 = .ok (.ifnull 14, 3) := by decide +kernel
theorem zd_X_deliver_12 : decode zb_X_deliver 12 = .ok (.aload_n 2, 1) := by decide +kernel
theorem zd_X_deliver_13 : decode zb_X_deliver 13 = .ok (.getfield 210, 3) := by decide +kernel
theorem zd_X_deliver_16 : decode zb_X_deliver 16 = .ok (.aload_n 0, 1) := by decide +kernel
theorem zd_X_deliver_17 : decode zb_X_deliver 17 = .ok (.getfield 40, 3) := by decide +kernel
theorem zd_X_deliver_20 : decode zb_X_deliver 20 = .ok (.if_icmp .eq 5, 3) := by decide +kernel
theorem zd_X_deliver_23 : decode zb_X_deliver 23 = .ok (.iconst 0, 1) := by decide +kernel
theorem zd_X_deliver_24 : decode zb_X_deliver 24 = .ok (.ireturn, 1) := by decide +kernel
theorem zd_X_deliver_25 : decode zb_X_deliver 25 = .ok (.aload_n 1, 1) := by decide +kernel
theorem zd_X_deliver_26 : decode zb_X_deliver 26 = .ok (.getfield 213, 3) := by decide +kernel
theorem zd_X_deliver_29 : decode zb_X_deliver 29 = .ok (.invokevirtual 240, 3) := by decide +kernel
theorem zd_X_deliver_32 : decode zb_X_deliver 32 = .ok (.aload_n 2, 1) := by decide +kernel
theorem zd_X_deliver_33 : decode zb_X_deliver 33 = .ok (.aload_n 1, 1) := by decide +kernel
theorem zd_X_deliver_34 : decode zb_X_deliver 34 = .ok (.getfield 164, 3) := by decide +kernel
theorem zd_X_deliver_37 : decode zb_X_deliver 37 = .ok (.putfield 95, 3) := by decide +kernel
theorem zd_X_deliver_40 : decode zb_X_deliver 40 = .ok (.aload_n 1, 1) := by decide +kernel
theorem zd_X_deliver_41 : decode zb_X_deliver 41 = .ok (.getfield 164, 3) := by decide +kernel
theorem zd_X_deliver_44 : decode zb_X_deliver 44 = .ok (.invokestatic 59, 3) := by decide +kernel
theorem zd_X_deliver_47 : decode zb_X_deliver 47 = .ok (.ifCond .eq 9, 3) := by decide +kernel
theorem zd_X_deliver_50 : decode zb_X_deliver 50 = .ok (.aload_n 2, 1) := by decide +kernel
theorem zd_X_deliver_51 : decode zb_X_deliver 51 = .ok (.invokestatic 243, 3) := by decide +kernel
theorem zd_X_deliver_54 : decode zb_X_deliver 54 = .ok (.iconst 1, 1) := by decide +kernel
theorem zd_X_deliver_55 : decode zb_X_deliver 55 = .ok (.ireturn, 1) := by decide +kernel
theorem zd_X_deliver_56 : decode zb_X_deliver 56 = .ok (.aload_n 0, 1) := by decide +kernel
theorem zd_X_deliver_57 : decode zb_X_deliver 57 = .ok (.aload_n 1, 1) := by decide +kernel
theorem zd_X_deliver_58 : decode zb_X_deliver 58 = .ok (.aload_n 2, 1) := by decide +kernel
theorem zd_X_deliver_59 : decode zb_X_deliver 59 = .ok (.invokevirtual 246, 3) := by decide +kernel
theorem zd_X_deliver_62 : decode zb_X_deliver 62 = .ok (.ifCond .eq 12, 3) := by decide +kernel
theorem zd_X_deliver_65 : decode zb_X_deliver 65 = .ok (.aload_n 0, 1) := by decide +kernel
theorem zd_X_deliver_66 : decode zb_X_deliver 66 = .ok (.aload_n 1, 1) := by decide +kernel
theorem zd_X_deliver_67 : decode zb_X_deliver 67 = .ok (.aload_n 2, 1) := by decide +kernel
theorem zd_X_deliver_68 : decode zb_X_deliver 68 = .ok (.invokevirtual 250, 3) := by decide +kernel
theorem zd_X_deliver_71 : decode zb_X_deliver 71 = .ok (.goto 7, 3) := by decide +kernel
theorem zd_X_deliver_74 : decode zb_X_deliver 74 = .ok (.aload_n 2, 1) := by decide +kernel
theorem zd_X_deliver_75 : decode zb_X_deliver 75 = .ok (.invokestatic 254, 3) := by decide +kernel
theorem zd_X_deliver_78 : decode zb_X_deliver 78 = .ok (.iconst 0, 1) := by decide +kernel
theorem zd_X_deliver_79 : decode zb_X_deliver 79 = .ok (.ireturn, 1) := by decide +kernel
theorem zd_Q_removeFirst_0 : decode zb_Q_removeFirst 0 = .ok (.aload_n 0, 1) := by decide +kernel
theorem zd_Q_removeFirst_1 : decode zb_Q_removeFirst 1 = .ok (.getfield 7, 3) := by decide +kernel
theorem zd_Q_removeFirst_4 : decode zb_Q_removeFirst 4 = .ok (.astore_n 1, 1) := by decide +kernel
theorem zd_Q_removeFirst_5 : decode zb_Q_removeFirst 5 = .ok (.aload_n 1, 1) := by decide +kernel
theorem zd_Q_removeFirst_6 : decode zb_Q_removeFirst 6 = .ok (.ifnonnull 4, 3) := by decide +kernel
theorem zd_Q_removeFirst_9 : decode zb_Q_removeFirst 9 = .ok (.return_, 1) := by decide +kernel
theorem zd_Q_removeFirst_10 : decode zb_Q_removeFirst 10 = .ok (.aload_n 0, 1) := by decide +kernel
theorem zd_Q_removeFirst_11 : decode zb_Q_removeFirst 11 = .ok (.aload_n 1, 1) := by decide +kernel
theorem zd_Q_removeFirst_12 : decode zb_Q_removeFirst 12 = .ok (.getfield 20, 3) := by decide +kernel
theorem zd_Q_removeFirst_15 : decode zb_Q_removeFirst 15 = .ok (.putfield 7, 3) := by decide +kernel
theorem zd_Q_removeFirst_18 : decode zb_Q_removeFirst 18 = .ok (.aload_n 0, 1) := by decide +kernel
theorem zd_Q_removeFirst_19 : decode zb_Q_removeFirst 19 = .ok (.getfield 7, 3) := by decide +kernel
theorem zd_Q_removeFirst_22 : decode zb_Q_removeFirst 22 = .ok (.ifnonnull 8, 3) := by decide +kernel
theorem zd_Q_removeFirst_25 : decode zb_Q_removeFirst 25 = .ok (.aload_n 0, 1) := by decide +kernel
theorem zd_Q_removeFirst_26 : decode zb_Q_removeFirst 26 = .ok (.aconst_null, 1) := by decide +kernel
theorem zd_Q_removeFirst_27 : decode zb_Q_removeFirst 27 = .ok (.putfield 13, 3) := by decide +kernel
theorem zd_Q_removeFirst_30 : decode zb_Q_removeFirst 30 = .ok (.aload_n 1, 1) := by decide +kernel
theorem zd_Q_removeFirst_31 : decode zb_Q_removeFirst 31 = .ok (.aconst_null, 1) := by decide +kernel
theorem zd_Q_removeFirst_32 : decode zb_Q_removeFirst 32 = .ok (.putfield 20, 3) := by decide +kernel
theorem zd_Q_removeFirst_35 : decode zb_Q_removeFirst 35 = .ok (.aload_n 0, 1) := by decide +kernel
theorem zd_Q_removeFirst_36 : decode zb_Q_removeFirst 36 = .ok (.dup, 1) := by decide +kernel
theorem zd_Q_removeFirst_37 : decode zb_Q_removeFirst 37 = .ok (.getfield 16, 3) := by decide +kernel
theorem zd_Q_removeFirst_40 : decode zb_Q_removeFirst 40 = .ok (.aload_n 1, 1) := by decide +kernel
theorem zd_Q_removeFirst_41 : decode zb_Q_removeFirst 41 = .ok (.getfield 25, 3) := by decide +kernel
theorem zd_Q_removeFirst_44 : decode zb_Q_removeFirst 44 = .ok (.isub, 1) := by decide +kernel
theorem zd_Q_removeFirst_45 : decode zb_Q_removeFirst 45 = .ok (.putfield 16, 3) := by decide +kernel
theorem zd_Q_removeFirst_48 : decode zb_Q_removeFirst 48 = .ok (.return_, 1) := by decide +kernel
theorem zd_X_receive_0 : decode zb_X_receive 0 = .ok (.aload_n 0, 1) := by decide +kernel
theorem zd_X_receive_1 : decode zb_X_receive 1 = .ok (.getfield 229, 3) := by decide +kernel
theorem zd_X_receive_4 : decode zb_X_receive 4 = .ok (.astore_n 1, 1) := by decide +kernel
theorem zd_X_receive_5 : decode zb_X_receive 5 = .ok (.aload_n 0, 1) := by decide +kernel
theorem zd_X_receive_6 : decode zb_X_receive 6 = .ok (.iconst 4, 1) := by decide +kernel
theorem zd_X_receive_7 : decode zb_X_receive 7 = .ok (.putfield 92, 3) := by decide +kernel
theorem zd_X_receive_10 : decode zb_X_receive 10 = .ok (.aload_n 1, 1) := by decide +kernel
theorem zd_X_receive_11 : decode zb_X_receive 11 = .ok (.dup, 1) := by decide +kernel
theorem zd_X_receive_12 : decode zb_X_receive 12 = .ok (.getfield 132, 3) := by decide +kernel
theorem zd_X_receive_15 : decode zb_X_receive 15 = .ok (.iconst 1, 1) := by decide +kernel
theorem zd_X_receive_16 : decode zb_X_receive 16 = .ok (.iadd, 1) := by decide +kernel
theorem zd_X_receive_17 : decode zb_X_receive 17 = .ok (.putfield 132, 3) := by decide +kernel
theorem zd_X_receive_20 : decode zb_X_receive 20 = .ok (.aload_n 1, 1) := by decide +kernel
theorem zd_X_receive_21 : decode zb_X_receive 21 = .ok (.aload_n 0, 1) := by decide +kernel
theorem zd_X_receive_22 : decode zb_X_receive 22 = .ok (.getfield 257, 3) := by decide +kernel
theorem zd_X_receive_25 : decode zb_X_receive 25 = .ok (.putfield 138, 3) := by decide +kernel
theorem zd_X_receive_28 : decode zb_X_receive 28 = .ok (.aload_n 0, 1) := by decide +kernel
theorem zd_X_receive_29 : decode zb_X_receive 29 = .ok (.getfield 98, 3) := by decide +kernel
theorem zd_X_receive_32 : decode zb_X_receive 32 = .ok (.ifCond .eq 8, 3) := by decide +kernel
theorem zd_X_receive_35 : decode zb_X_receive 35 = .ok (.aload_n 1, 1) := by decide +kernel
theorem zd_X_receive_36 : decode zb_X_receive 36 = .ok (.iconst 1, 1) := by decide +kernel
theorem zd_X_receive_37 : decode zb_X_receive 37 = .ok (.putfield 203, 3) := by decide +kernel
theorem zd_X_receive_40 : decode zb_X_receive 40 = .ok (.return_, 1) := by decide +kernel
theorem zd_X_hasPlace_0 : decode zb_X_hasPlace 0 = .ok (.aload_n 2, 1) := by decide +kernel
theorem zd_X_hasPlace_1 : decode zb_X_hasPlace 1 = .ok (.getfield 229, 3) := by decide +kernel
theorem zd_X_hasPlace_4 : decode zb_X_hasPlace 4 = .ok (.getfield 233, 3) := by decide +kernel
theorem zd_X_hasPlace_7 : decode zb_X_hasPlace 7 = .ok (.istore_n 3, 1) := by decide +kernel
theorem zd_X_hasPlace_8 : decode zb_X_hasPlace 8 = .ok (.iload_n 3, 1) := by decide +kernel
theorem zd_X_hasPlace_9 : decode zb_X_hasPlace 9 = .ok (.ifCond .ne 15, 3) := by decide +kernel
theorem zd_X_hasPlace_12 : decode zb_X_hasPlace 12 = .ok (.aload_n 0, 1) := by decide +kernel
theorem zd_X_hasPlace_13 : decode zb_X_hasPlace 13 = .ok (.getfield 50, 3) := by decide +kernel
theorem zd_X_hasPlace_16 : decode zb_X_hasPlace 16 = .ok (.aload_n 0, 1) := by decide +kernel
theorem zd_X_hasPlace_17 : decode zb_X_hasPlace 17 = .ok (.getfield 53, 3) := by decide +kernel
theorem zd_X_hasPlace_20 : decode zb_X_hasPlace 20 = .ok (.iadd, 1) := by decide +kernel
theorem zd_X_hasPlace_21 : decode zb_X_hasPlace 21 = .ok (.goto 7, 3) := by decide +kernel
theorem zd_X_hasPlace_24 : decode zb_X_hasPlace 24 = .ok (.aload_n 0, 1) := by decide +kernel
theorem zd_X_hasPlace_25 : decode zb_X_hasPlace 25 = .ok (.getfield 50, 3) := by decide +kernel
theorem zd_X_hasPlace_28 : decode zb_X_hasPlace 28 = .ok (.istore 4, 2) := by decide +kernel
theorem zd_X_hasPlace_30 : decode zb_X_hasPlace 30 = .ok (.aload_n 1, 1) := by decide +kernel
theorem zd_X_hasPlace_31 : decode zb_X_hasPlace 31 = .ok (.getfield 117, 3) := by decide +kernel
theorem zd_X_hasPlace_34 : decode zb_X_hasPlace 34 = .ok (.iload_n 3, 1) := by decide +kernel
theorem zd_X_hasPlace_35 : decode zb_X_hasPlace 35 = .ok (.iaload, 1) := by decide +kernel
theorem zd_X_hasPlace_36 : decode zb_X_hasPlace 36 = .ok (.aload_n 2, 1) := by decide +kernel
theorem zd_X_hasPlace_37 : decode zb_X_hasPlace 37 = .ok (.getfield 236, 3) := by decide +kernel
theorem zd_X_hasPlace_40 : decode zb_X_hasPlace 40 = .ok (.iadd, 1) := by decide +kernel
theorem zd_X_hasPlace_41 : decode zb_X_hasPlace 41 = .ok (.iload 4, 2) := by decide +kernel
theorem zd_X_hasPlace_43 : decode zb_X_hasPlace 43 = .ok (.if_icmp .gt 7, 3) := by decide +kernel
theorem zd_X_hasPlace_46 : decode zb_X_hasPlace 46 = .ok (.iconst 1, 1) := by decide +kernel
theorem zd_X_hasPlace_47 : decode zb_X_hasPlace 47 = .ok (.goto 4, 3) := by decide +kernel
theorem zd_X_hasPlace_50 : decode zb_X_hasPlace 50 = .ok (.iconst 0, 1) := by decide +kernel
theorem zd_X_hasPlace_51 : decode zb_X_hasPlace 51 = .ok (.ireturn, 1) := by decide +kernel
theorem zd_X_hold_0 : decode zb_X_hold 0 = .ok (.aload_n 2, 1) := by decide +kernel
theorem zd_X_hold_1 : decode zb_X_hold 1 = .ok (.getfield 229, 3) := by decide +kernel
theorem zd_X_hold_4 : decode zb_X_hold 4 = .ok (.getfield 233, 3) := by decide +kernel
theorem zd_X_hold_7 : decode zb_X_hold 7 = .ok (.istore_n 3, 1) := by decide +kernel
theorem zd_X_hold_8 : decode zb_X_hold 8 = .ok (.aload_n 1, 1) := by decide +kernel
theorem zd_X_hold_9 : decode zb_X_hold 9 = .ok (.getfield 117, 3) := by decide +kernel
theorem zd_X_hold_12 : decode zb_X_hold 12 = .ok (.iload_n 3, 1) := by decide +kernel
theorem zd_X_hold_13 : decode zb_X_hold 13 = .ok (.dup2, 1) := by decide +kernel
theorem zd_X_hold_14 : decode zb_X_hold 14 = .ok (.iaload, 1) := by decide +kernel
theorem zd_X_hold_15 : decode zb_X_hold 15 = .ok (.aload_n 2, 1) := by decide +kernel
theorem zd_X_hold_16 : decode zb_X_hold 16 = .ok (.getfield 236, 3) := by decide +kernel
theorem zd_X_hold_19 : decode zb_X_hold 19 = .ok (.iadd, 1) := by decide +kernel
theorem zd_X_hold_20 : decode zb_X_hold 20 = .ok (.iastore, 1) := by decide +kernel
theorem zd_X_hold_21 : decode zb_X_hold 21 = .ok (.iload_n 3, 1) := by decide +kernel
theorem zd_X_hold_22 : decode zb_X_hold 22 = .ok (.ifCond .ne 21, 3) := by decide +kernel
theorem zd_X_hold_25 : decode zb_X_hold 25 = .ok (.aload_n 1, 1) := by decide +kernel
theorem zd_X_hold_26 : decode zb_X_hold 26 = .ok (.getfield 117, 3) := by decide +kernel
theorem zd_X_hold_29 : decode zb_X_hold 29 = .ok (.iconst 0, 1) := by decide +kernel
theorem zd_X_hold_30 : decode zb_X_hold 30 = .ok (.iaload, 1) := by decide +kernel
theorem zd_X_hold_31 : decode zb_X_hold 31 = .ok (.aload_n 0, 1) := by decide +kernel
theorem zd_X_hold_32 : decode zb_X_hold 32 = .ok (.getfield 50, 3) := by decide +kernel
theorem zd_X_hold_35 : decode zb_X_hold 35 = .ok (.if_icmp .lt 8, 3) := by decide +kernel
theorem zd_X_hold_38 : decode zb_X_hold 38 = .ok (.aload_n 1, 1) := by decide +kernel
theorem zd_X_hold_39 : decode zb_X_hold 39 = .ok (.iconst 1, 1) := by decide +kernel
theorem zd_X_hold_40 : decode zb_X_hold 40 = .ok (.putfield 120, 3) := by decide +kernel
theorem zd_X_hold_43 : decode zb_X_hold 43 = .ok (.aload_n 2, 1) := by decide +kernel
theorem zd_X_hold_44 : decode zb_X_hold 44 = .ok (.aload_n 1, 1) := by decide +kernel
theorem zd_X_hold_45 : decode zb_X_hold 45 = .ok (.putfield 221, 3) := by decide +kernel
theorem zd_X_hold_48 : decode zb_X_hold 48 = .ok (.aload_n 2, 1) := by decide +kernel
theorem zd_X_hold_49 : decode zb_X_hold 49 = .ok (.dup, 1) := by decide +kernel
theorem zd_X_hold_50 : decode zb_X_hold 50 = .ok (.getfield 260, 3) := by decide +kernel
theorem zd_X_hold_53 : decode zb_X_hold 53 = .ok (.iconst 1, 1) := by decide +kernel
theorem zd_X_hold_54 : decode zb_X_hold 54 = .ok (.iadd, 1) := by decide +kernel
theorem zd_X_hold_55 : decode zb_X_hold 55 = .ok (.putfield 260, 3) := by decide +kernel
theorem zd_X_hold_58 : decode zb_X_hold 58 = .ok (.aload_n 2, 1) := by decide +kernel
theorem zd_X_hold_59 : decode zb_X_hold 59 = .ok (.invokestatic 80, 3) := by decide +kernel
theorem zd_X_hold_62 : decode zb_X_hold 62 = .ok (.aload_n 0, 1) := by decide +kernel
theorem zd_X_hold_63 : decode zb_X_hold 63 = .ok (.getfield 56, 3) := by decide +kernel
theorem zd_X_hold_66 : decode zb_X_hold 66 = .ok (.if_icmp .le 8, 3) := by decide +kernel
theorem zd_X_hold_69 : decode zb_X_hold 69 = .ok (.aload_n 2, 1) := by decide +kernel
theorem zd_X_hold_70 : decode zb_X_hold 70 = .ok (.iconst 1, 1) := by decide +kernel
theorem zd_X_hold_71 : decode zb_X_hold 71 = .ok (.putfield 98, 3) := by decide +kernel
theorem zd_X_hold_74 : decode zb_X_hold 74 = .ok (.return_, 1) := by decide +kernel
theorem zd_X_drop_0 : decode zb_X_drop 0 = .ok (.aload_n 0, 1) := by decide +kernel
theorem zd_X_drop_1 : decode zb_X_drop 1 = .ok (.iconst 5, 1) := by decide +kernel
theorem zd_X_drop_2 : decode zb_X_drop 2 = .ok (.putfield 92, 3) := by decide +kernel
theorem zd_X_drop_5 : decode zb_X_drop 5 = .ok (.aload_n 0, 1) := by decide +kernel
theorem zd_X_drop_6 : decode zb_X_drop 6 = .ok (.getfield 229, 3) := by decide +kernel
theorem zd_X_drop_9 : decode zb_X_drop 9 = .ok (.dup, 1) := by decide +kernel
theorem zd_X_drop_10 : decode zb_X_drop 10 = .ok (.getfield 135, 3) := by decide +kernel
theorem zd_X_drop_13 : decode zb_X_drop 13 = .ok (.iconst 1, 1) := by decide +kernel
theorem zd_X_drop_14 : decode zb_X_drop 14 = .ok (.iadd, 1) := by decide +kernel
theorem zd_X_drop_15 : decode zb_X_drop 15 = .ok (.putfield 135, 3) := by decide +kernel
theorem zd_X_drop_18 : decode zb_X_drop 18 = .ok (.return_, 1) := by decide +kernel
theorem zd_X_choose_0 : decode zb_X_choose 0 = .ok (.aload_n 1, 1) := by decide +kernel
theorem zd_X_choose_1 : decode zb_X_choose 1 = .ok (.getfield 206, 3) := by decide +kernel
theorem zd_X_choose_4 : decode zb_X_choose 4 = .ok (.ifnull 4, 3) := by decide +kernel
theorem zd_X_choose_7 : decode zb_X_choose 7 = .ok (.return_, 1) := by decide +kernel
theorem zd_X_choose_8 : decode zb_X_choose 8 = .ok (.iconst 0, 1) := by decide +kernel
theorem zd_X_choose_9 : decode zb_X_choose 9 = .ok (.istore_n 2, 1) := by decide +kernel
theorem zd_X_choose_10 : decode zb_X_choose 10 = .ok (.iload_n 2, 1) := by decide +kernel
theorem zd_X_choose_11 : decode zb_X_choose 11 = .ok (.bipush 64, 2) := by decide +kernel
theorem zd_X_choose_13 : decode zb_X_choose 13 = .ok (.if_icmp .ge 114, 3) := by decide +kernel
theorem zd_X_choose_16 : decode zb_X_choose 16 = .ok (.aload_n 1, 1) := by decide +kernel
theorem zd_X_choose_17 : decode zb_X_choose 17 = .ok (.getfield 267, 3) := by decide +kernel
theorem zd_X_choose_20 : decode zb_X_choose 20 = .ok (.istore_n 3, 1) := by decide +kernel
theorem zd_X_choose_21 : decode zb_X_choose 21 = .ok (.iconst 1, 1) := by decide +kernel
theorem zd_X_choose_22 : decode zb_X_choose 22 = .ok (.iload_n 3, 1) := by decide +kernel
theorem zd_X_choose_23 : decode zb_X_choose 23 = .ok (.isub, 1) := by decide +kernel
theorem zd_X_choose_24 : decode zb_X_choose 24 = .ok (.istore 4, 2) := by decide +kernel
theorem zd_X_choose_26 : decode zb_X_choose 26 = .ok (.aload_n 0, 1) := by decide +kernel
theorem zd_X_choose_27 : decode zb_X_choose 27 = .ok (.aload_n 1, 1) := by decide +kernel
theorem zd_X_choose_28 : decode zb_X_choose 28 = .ok (.iload_n 3, 1) := by decide +kernel
theorem zd_X_choose_29 : decode zb_X_choose 29 = .ok (.invokevirtual 270, 3) := by decide +kernel
theorem zd_X_choose_32 : decode zb_X_choose 32 = .ok (.astore 5, 2) := by decide +kernel
theorem zd_X_choose_34 : decode zb_X_choose 34 = .ok (.aload_n 0, 1) := by decide +kernel
theorem zd_X_choose_35 : decode zb_X_choose 35 = .ok (.aload_n 1, 1) := by decide +kernel
theorem zd_X_choose_36 : decode zb_X_choose 36 = .ok (.iload 4, 2) := by decide +kernel
theorem zd_X_choose_38 : decode zb_X_choose 38 = .ok (.invokevirtual 270, 3) := by decide +kernel
theorem zd_X_choose_41 : decode zb_X_choose 41 = .ok (.astore 6, 2) := by decide +kernel
theorem zd_X_choose_43 : decode zb_X_choose 43 = .ok (.aload 5, 2) := by decide +kernel
theorem zd_X_choose_45 : decode zb_X_choose 45 = .ok (.ifnonnull 9, 3) := by decide +kernel
theorem zd_X_choose_48 : decode zb_X_choose 48 = .ok (.aload 6, 2) := by decide +kernel
theorem zd_X_choose_50 : decode zb_X_choose 50 = .ok (.ifnonnull 4, 3) := by decide +kernel
theorem zd_X_choose_53 : decode zb_X_choose 53 = .ok (.return_, 1) := by decide +kernel
theorem zd_X_choose_54 : decode zb_X_choose 54 = .ok (.aload 5, 2) := by decide +kernel
theorem zd_X_choose_56 : decode zb_X_choose 56 = .ok (.ifnull 25, 3) := by decide +kernel
theorem zd_X_choose_59 : decode zb_X_choose 59 = .ok (.aload 5, 2) := by decide +kernel
theorem zd_X_choose_61 : decode zb_X_choose 61 = .ok (.getfield 236, 3) := by decide +kernel
theorem zd_X_choose_64 : decode zb_X_choose 64 = .ok (.aload_n 1, 1) := by decide +kernel
theorem zd_X_choose_65 : decode zb_X_choose 65 = .ok (.getfield 274, 3) := by decide +kernel
theorem zd_X_choose_68 : decode zb_X_choose 68 = .ok (.iload_n 3, 1) := by decide +kernel
theorem zd_X_choose_69 : decode zb_X_choose 69 = .ok (.iaload, 1) := by decide +kernel
theorem zd_X_choose_70 : decode zb_X_choose 70 = .ok (.if_icmp .gt 11, 3) := by decide +kernel
theorem zd_X_choose_73 : decode zb_X_choose 73 = .ok (.aload_n 0, 1) := by decide +kernel
theorem zd_X_choose_74 : decode zb_X_choose 74 = .ok (.aload_n 1, 1) := by decide +kernel
theorem zd_X_choose_75 : decode zb_X_choose 75 = .ok (.aload 5, 2) := by decide +kernel
theorem zd_X_choose_77 : decode zb_X_choose 77 = .ok (.invokevirtual 277, 3) := by decide +kernel
theorem zd_X_choose_80 : decode zb_X_choose 80 = .ok (.return_, 1) := by decide +kernel
theorem zd_X_choose_81 : decode zb_X_choose 81 = .ok (.aload 5, 2) := by decide +kernel
theorem zd_X_choose_83 : decode zb_X_choose 83 = .ok (.ifnonnull 10, 3) := by decide +kernel
theorem zd_X_choose_86 : decode zb_X_choose 86 = .ok (.aload_n 1, 1) := by decide +kernel
theorem zd_X_choose_87 : decode zb_X_choose 87 = .ok (.getfield 274, 3) := by decide +kernel
theorem zd_X_choose_90 : decode zb_X_choose 90 = .ok (.iload_n 3, 1) := by decide +kernel
theorem zd_X_choose_91 : decode zb_X_choose 91 = .ok (.iconst 0, 1) := by decide +kernel
theorem zd_X_choose_92 : decode zb_X_choose 92 = .ok (.iastore, 1) := by decide +kernel
theorem zd_X_choose_93 : decode zb_X_choose 93 = .ok (.aload_n 1, 1) := by decide +kernel
theorem zd_X_choose_94 : decode zb_X_choose 94 = .ok (.iload 4, 2) := by decide +kernel
theorem zd_X_choose_96 : decode zb_X_choose 96 = .ok (.putfield 267, 3) := by decide +kernel
theorem zd_X_choose_99 : decode zb_X_choose 99 = .ok (.aload 6, 2) := by decide +kernel
theorem zd_X_choose_101 : decode zb_X_choose 101 = .ok (.ifnull 20, 3) := by decide +kernel
theorem zd_X_choose_104 : decode zb_X_choose 104 = .ok (.aload_n 1, 1) := by decide +kernel
theorem zd_X_choose_105 : decode zb_X_choose 105 = .ok (.getfield 274, 3) := by decide +kernel
theorem zd_X_choose_108 : decode zb_X_choose 108 = .ok (.iload 4, 2) := by decide +kernel
theorem zd_X_choose_110 : decode zb_X_choose 110 = .ok (.dup2, 1) := by decide +kernel
theorem zd_X_choose_111 : decode zb_X_choose 111 = .ok (.iaload, 1) := by decide +kernel
theorem zd_X_choose_112 : decode zb_X_choose 112 = .ok (.aload_n 0, 1) := by decide +kernel
theorem zd_X_choose_113 : decode zb_X_choose 113 = .ok (.getfield 7, 3) := by decide +kernel
theorem zd_X_choose_116 : decode zb_X_choose 116 = .ok (.iload 4, 2) := by decide +kernel
theorem zd_X_choose_118 : decode zb_X_choose 118 = .ok (.iaload, 1) := by decide +kernel
theorem zd_X_choose_119 : decode zb_X_choose 119 = .ok (.iadd, 1) := by decide +kernel
theorem zd_X_choose_120 : decode zb_X_choose 120 = .ok (.iastore, 1) := by decide +kernel
theorem zd_X_choose_121 : decode zb_X_choose 121 = .ok (.iinc 2 1, 3) := by decide +kernel
theorem zd_X_choose_124 : decode zb_X_choose 124 = .ok (.goto (-114), 3) := by decide +kernel
theorem zd_X_choose_127 : decode zb_X_choose 127 = .ok (.return_, 1) := by decide +kernel
theorem zd_X_readyFrame_0 : decode zb_X_readyFrame 0 = .ok (.aload_n 1, 1) := by decide +kernel
theorem zd_X_readyFrame_1 : decode zb_X_readyFrame 1 = .ok (.getfield 106, 3) := by decide +kernel
theorem zd_X_readyFrame_4 : decode zb_X_readyFrame 4 = .ok (.iload_n 2, 1) := by decide +kernel
theorem zd_X_readyFrame_5 : decode zb_X_readyFrame 5 = .ok (.aaload, 1) := by decide +kernel
theorem zd_X_readyFrame_6 : decode zb_X_readyFrame 6 = .ok (.getfield 237, 3) := by decide +kernel
theorem zd_X_readyFrame_9 : decode zb_X_readyFrame 9 = .ok (.astore_n 3, 1) := by decide +kernel
theorem zd_X_readyFrame_10 : decode zb_X_readyFrame 10 = .ok (.aload_n 3, 1) := by decide +kernel
theorem zd_X_readyFrame_11 : decode zb_X_readyFrame 11 = .ok (.ifnull 14, 3) := by decide +kernel
theorem zd_X_readyFrame_14 : decode zb_X_readyFrame 14 = .ok (.iload_n 2, 1) := by decide +kernel
theorem zd_X_readyFrame_15 : decode zb_X_readyFrame 15 = .ok (.ifCond .ne 12, 3) := by decide +kernel
theorem zd_X_readyFrame_18 : decode zb_X_readyFrame 18 = .ok (.aload_n 1, 1) := by decide +kernel
theorem zd_X_readyFrame_19 : decode zb_X_readyFrame 19 = .ok (.getfield 123, 3) := by decide +kernel
theorem zd_X_readyFrame_22 : decode zb_X_readyFrame 22 = .ok (.ifCond .eq 5, 3) := by decide +kernel
theorem zd_X_readyFrame_25 : decode zb_X_readyFrame 25 = .ok (.aconst_null, 1) := by decide +kernel
theorem zd_X_readyFrame_26 : decode zb_X_readyFrame 26 = .ok (.areturn, 1) := by decide +kernel
theorem zd_X_readyFrame_27 : decode zb_X_readyFrame 27 = .ok (.aload_n 1, 1) := by decide +kernel
theorem zd_X_readyFrame_28 : decode zb_X_readyFrame 28 = .ok (.getfield 161, 3) := by decide +kernel
theorem zd_X_readyFrame_31 : decode zb_X_readyFrame 31 = .ok (.invokestatic 59, 3) := by decide +kernel
theorem zd_X_readyFrame_34 : decode zb_X_readyFrame 34 = .ok (.ifCond .eq 21, 3) := by decide +kernel
theorem zd_X_readyFrame_37 : decode zb_X_readyFrame 37 = .ok (.aload_n 0, 1) := by decide +kernel
theorem zd_X_readyFrame_38 : decode zb_X_readyFrame 38 = .ok (.getfield 40, 3) := by decide +kernel
theorem zd_X_readyFrame_41 : decode zb_X_readyFrame 41 = .ok (.aload_n 3, 1) := by decide +kernel
theorem zd_X_readyFrame_42 : decode zb_X_readyFrame 42 = .ok (.getfield 229, 3) := by decide +kernel
theorem zd_X_readyFrame_45 : decode zb_X_readyFrame 45 = .ok (.getfield 280, 3) := by decide +kernel
theorem zd_X_readyFrame_48 : decode zb_X_readyFrame 48 = .ok (.if_icmp .ge 7, 3) := by decide +kernel
theorem zd_X_readyFrame_51 : decode zb_X_readyFrame 51 = .ok (.aconst_null, 1) := by decide +kernel
theorem zd_X_readyFrame_52 : decode zb_X_readyFrame 52 = .ok (.goto 4, 3) := by decide +kernel
theorem zd_X_readyFrame_55 : decode zb_X_readyFrame 55 = .ok (.aload_n 3, 1) := by decide +kernel
theorem zd_X_readyFrame_56 : decode zb_X_readyFrame 56 = .ok (.areturn, 1) := by decide +kernel
theorem zd_X_beginSending_0 : decode zb_X_beginSending 0 = .ok (.aload_n 2, 1) := by decide +kernel
theorem zd_X_beginSending_1 : decode zb_X_beginSending 1 = .ok (.getfield 229, 3) := by decide +kernel
theorem zd_X_beginSending_4 : decode zb_X_beginSending 4 = .ok (.astore_n 3, 1) := by decide +kernel
theorem zd_X_beginSending_5 : decode zb_X_beginSending 5 = .ok (.aload_n 1, 1) := by decide +kernel
theorem zd_X_beginSending_6 : decode zb_X_beginSending 6 = .ok (.getfield 106, 3) := by decide +kernel
theorem zd_X_beginSending_9 : decode zb_X_beginSending 9 = .ok (.aload_n 3, 1) := by decide +kernel
theorem zd_X_beginSending_10 : decode zb_X_beginSending 10 = .ok (.getfield 233, 3) := by decide +kernel
theorem zd_X_beginSending_13 : decode zb_X_beginSending 13 = .ok (.aaload, 1) := by decide +kernel
theorem zd_X_beginSending_14 : decode zb_X_beginSending 14 = .ok (.invokevirtual 240, 3) := by decide +kernel
theorem zd_X_beginSending_17 : decode zb_X_beginSending 17 = .ok (.aload_n 1, 1) := by decide +kernel
theorem zd_X_beginSending_18 : decode zb_X_beginSending 18 = .ok (.getfield 274, 3) := by decide +kernel
theorem zd_X_beginSending_21 : decode zb_X_beginSending 21 = .ok (.aload_n 3, 1) := by decide +kernel
theorem zd_X_beginSending_22 : decode zb_X_beginSending 22 = .ok (.getfield 233, 3) := by decide +kernel
theorem zd_X_beginSending_25 : decode zb_X_beginSending 25 = .ok (.dup2, 1) := by decide +kernel
theorem zd_X_beginSending_26 : decode zb_X_beginSending 26 = .ok (.iaload, 1) := by decide +kernel
theorem zd_X_beginSending_27 : decode zb_X_beginSending 27 = .ok (.aload_n 2, 1) := by decide +kernel
theorem zd_X_beginSending_28 : decode zb_X_beginSending 28 = .ok (.getfield 236, 3) := by decide +kernel
theorem zd_X_beginSending_31 : decode zb_X_beginSending 31 = .ok (.isub, 1) := by decide +kernel
theorem zd_X_beginSending_32 : decode zb_X_beginSending 32 = .ok (.iastore, 1) := by decide +kernel
theorem zd_X_beginSending_33 : decode zb_X_beginSending 33 = .ok (.aload_n 1, 1) := by decide +kernel
theorem zd_X_beginSending_34 : decode zb_X_beginSending 34 = .ok (.aload_n 2, 1) := by decide +kernel
theorem zd_X_beginSending_35 : decode zb_X_beginSending 35 = .ok (.putfield 206, 3) := by decide +kernel
theorem zd_X_beginSending_38 : decode zb_X_beginSending 38 = .ok (.aload_n 2, 1) := by decide +kernel
theorem zd_X_beginSending_39 : decode zb_X_beginSending 39 = .ok (.iconst 2, 1) := by decide +kernel
theorem zd_X_beginSending_40 : decode zb_X_beginSending 40 = .ok (.putfield 92, 3) := by decide +kernel
theorem zd_X_beginSending_43 : decode zb_X_beginSending 43 = .ok (.aload_n 2, 1) := by decide +kernel
theorem zd_X_beginSending_44 : decode zb_X_beginSending 44 = .ok (.aload_n 0, 1) := by decide +kernel
theorem zd_X_beginSending_45 : decode zb_X_beginSending 45 = .ok (.getfield 40, 3) := by decide +kernel
theorem zd_X_beginSending_48 : decode zb_X_beginSending 48 = .ok (.aload_n 2, 1) := by decide +kernel
theorem zd_X_beginSending_49 : decode zb_X_beginSending 49 = .ok (.getfield 236, 3) := by decide +kernel
theorem zd_X_beginSending_52 : decode zb_X_beginSending 52 = .ok (.iadd, 1) := by decide +kernel
theorem zd_X_beginSending_53 : decode zb_X_beginSending 53 = .ok (.putfield 210, 3) := by decide +kernel
theorem zd_X_beginSending_56 : decode zb_X_beginSending 56 = .ok (.aload_n 1, 1) := by decide +kernel
theorem zd_X_beginSending_57 : decode zb_X_beginSending 57 = .ok (.getfield 161, 3) := by decide +kernel
theorem zd_X_beginSending_60 : decode zb_X_beginSending 60 = .ok (.invokestatic 59, 3) := by decide +kernel
theorem zd_X_beginSending_63 : decode zb_X_beginSending 63 = .ok (.ifCond .eq 15, 3) := by decide +kernel
theorem zd_X_beginSending_66 : decode zb_X_beginSending 66 = .ok (.aload_n 3, 1) := by decide +kernel
theorem zd_X_beginSending_67 : decode zb_X_beginSending 67 = .ok (.aload_n 0, 1) := by decide +kernel
theorem zd_X_beginSending_68 : decode zb_X_beginSending 68 = .ok (.getfield 40, 3) := by decide +kernel
theorem zd_X_beginSending_71 : decode zb_X_beginSending 71 = .ok (.aload_n 2, 1) := by decide +kernel
theorem zd_X_beginSending_72 : decode zb_X_beginSending 72 = .ok (.getfield 236, 3) := by decide +kernel
theorem zd_X_beginSending_75 : decode zb_X_beginSending 75 = .ok (.invokevirtual 283, 3) := by decide +kernel
theorem zd_X_beginSending_78 : decode zb_X_beginSending 78 = .ok (.return_, 1) := by decide +kernel
theorem zd_F_waitFrom_0 : decode zb_F_waitFrom 0 = .ok (.aload_n 0, 1) := by decide +kernel
theorem zd_F_waitFrom_1 : decode zb_F_waitFrom 1 = .ok (.iload_n 1, 1) := by decide +kernel
theorem zd_F_waitFrom_2 : decode zb_F_waitFrom 2 = .ok (.bipush 64, 2) := by decide +kernel
theorem zd_F_waitFrom_4 : decode zb_F_waitFrom 4 = .ok (.iload_n 2, 1) := by decide +kernel
theorem zd_F_waitFrom_5 : decode zb_F_waitFrom 5 = .ok (.imul, 1) := by decide +kernel
theorem zd_F_waitFrom_6 : decode zb_F_waitFrom 6 = .ok (.aload_n 0, 1) := by decide +kernel
theorem zd_F_waitFrom_7 : decode zb_F_waitFrom 7 = .ok (.getfield 9, 3) := by decide +kernel
theorem zd_F_waitFrom_10 : decode zb_F_waitFrom 10 = .ok (.iadd, 1) := by decide +kernel
theorem zd_F_waitFrom_11 : decode zb_F_waitFrom 11 = .ok (.iconst 1, 1) := by decide +kernel
theorem zd_F_waitFrom_12 : decode zb_F_waitFrom 12 = .ok (.isub, 1) := by decide +kernel
theorem zd_F_waitFrom_13 : decode zb_F_waitFrom 13 = .ok (.aload_n 0, 1) := by decide +kernel
theorem zd_F_waitFrom_14 : decode zb_F_waitFrom 14 = .ok (.getfield 9, 3) := by decide +kernel
theorem zd_F_waitFrom_17 : decode zb_F_waitFrom 17 = .ok (.idiv, 1) := by decide +kernel
theorem zd_F_waitFrom_18 : decode zb_F_waitFrom 18 = .ok (.iadd, 1) := by decide +kernel
theorem zd_F_waitFrom_19 : decode zb_F_waitFrom 19 = .ok (.putfield 24, 3) := by decide +kernel
theorem zd_F_waitFrom_22 : decode zb_F_waitFrom 22 = .ok (.return_, 1) := by decide +kernel
theorem zd_X_remember_0 : decode zb_X_remember 0 = .ok (.aload_n 0, 1) := by decide +kernel
theorem zd_X_remember_1 : decode zb_X_remember 1 = .ok (.getfield 17, 3) := by decide +kernel
theorem zd_X_remember_4 : decode zb_X_remember 4 = .ok (.astore_n 1, 1) := by decide +kernel
theorem zd_X_remember_5 : decode zb_X_remember 5 = .ok (.aload_n 1, 1) := by decide +kernel
theorem zd_X_remember_6 : decode zb_X_remember 6 = .ok (.arraylength, 1) := by decide +kernel
theorem zd_X_remember_7 : decode zb_X_remember 7 = .ok (.istore_n 2, 1) := by decide +kernel
theorem zd_X_remember_8 : decode zb_X_remember 8 = .ok (.iconst 0, 1) := by decide +kernel
theorem zd_X_remember_9 : decode zb_X_remember 9 = .ok (.istore_n 3, 1) := by decide +kernel
theorem zd_X_remember_10 : decode zb_X_remember 10 = .ok (.iload_n 3, 1) := by decide +kernel
theorem zd_X_remember_11 : decode zb_X_remember 11 = .ok (.iload_n 2, 1) := by decide +kernel
theorem zd_X_remember_12 : decode zb_X_remember 12 = .ok (.if_icmp .ge 32, 3) := by decide +kernel
theorem zd_X_remember_15 : decode zb_X_remember 15 = .ok (.aload_n 1, 1) := by decide +kernel
theorem zd_X_remember_16 : decode zb_X_remember 16 = .ok (.iload_n 3, 1) := by decide +kernel
theorem zd_X_remember_17 : decode zb_X_remember 17 = .ok (.aaload, 1) := by decide +kernel
theorem zd_X_remember_18 : decode zb_X_remember 18 = .ok (.astore 4, 2) := by decide +kernel
theorem zd_X_remember_20 : decode zb_X_remember 20 = .ok (.aload 4, 2) := by decide +kernel
theorem zd_X_remember_22 : decode zb_X_remember 22 = .ok (.aload 4, 2) := by decide +kernel
theorem zd_X_remember_24 : decode zb_X_remember 24 = .ok (.getfield 172, 3) := by decide +kernel
theorem zd_X_remember_27 : decode zb_X_remember 27 = .ok (.aload 4, 2) := by decide +kernel
theorem zd_X_remember_29 : decode zb_X_remember 29 = .ok (.getfield 120, 3) := by decide +kernel
theorem zd_X_remember_32 : decode zb_X_remember 32 = .ok (.invokestatic 199, 3) := by decide +kernel
theorem zd_X_remember_35 : decode zb_X_remember 35 = .ok (.putfield 172, 3) := by decide +kernel
theorem zd_X_remember_38 : decode zb_X_remember 38 = .ok (.iinc 3 1, 3) := by decide +kernel
theorem zd_X_remember_41 : decode zb_X_remember 41 = .ok (.goto (-31), 3) := by decide +kernel
theorem zd_X_remember_44 : decode zb_X_remember 44 = .ok (.iconst 0, 1) := by decide +kernel
theorem zd_X_remember_45 : decode zb_X_remember 45 = .ok (.istore_n 1, 1) := by decide +kernel
theorem zd_X_remember_46 : decode zb_X_remember 46 = .ok (.iload_n 1, 1) := by decide +kernel
theorem zd_X_remember_47 : decode zb_X_remember 47 = .ok (.aload_n 0, 1) := by decide +kernel
theorem zd_X_remember_48 : decode zb_X_remember 48 = .ok (.getfield 33, 3) := by decide +kernel
theorem zd_X_remember_51 : decode zb_X_remember 51 = .ok (.if_icmp .ge 36, 3) := by decide +kernel
theorem zd_X_remember_54 : decode zb_X_remember 54 = .ok (.aload_n 0, 1) := by decide +kernel
theorem zd_X_remember_55 : decode zb_X_remember 55 = .ok (.getfield 23, 3) := by decide +kernel
theorem zd_X_remember_58 : decode zb_X_remember 58 = .ok (.iload_n 1, 1) := by decide +kernel
theorem zd_X_remember_59 : decode zb_X_remember 59 = .ok (.aaload, 1) := by decide +kernel
theorem zd_X_remember_60 : decode zb_X_remember 60 = .ok (.astore_n 2, 1) := by decide +kernel
theorem zd_X_remember_61 : decode zb_X_remember 61 = .ok (.aload_n 2, 1) := by decide +kernel
theorem zd_X_remember_62 : decode zb_X_remember 62 = .ok (.aload_n 2, 1) := by decide +kernel
theorem zd_X_remember_63 : decode zb_X_remember 63 = .ok (.getfield 182, 3) := by decide +kernel
theorem zd_X_remember_66 : decode zb_X_remember 66 = .ok (.aload_n 2, 1) := by decide +kernel
theorem zd_X_remember_67 : decode zb_X_remember 67 = .ok (.getfield 203, 3) := by decide +kernel
theorem zd_X_remember_70 : decode zb_X_remember 70 = .ok (.invokestatic 199, 3) := by decide +kernel
theorem zd_X_remember_73 : decode zb_X_remember 73 = .ok (.putfield 182, 3) := by decide +kernel
theorem zd_X_remember_76 : decode zb_X_remember 76 = .ok (.aload_n 2, 1) := by decide +kernel
theorem zd_X_remember_77 : decode zb_X_remember 77 = .ok (.iconst 0, 1) := by decide +kernel
theorem zd_X_remember_78 : decode zb_X_remember 78 = .ok (.putfield 203, 3) := by decide +kernel
theorem zd_X_remember_81 : decode zb_X_remember 81 = .ok (.iinc 1 1, 3) := by decide +kernel
theorem zd_X_remember_84 : decode zb_X_remember 84 = .ok (.goto (-38), 3) := by decide +kernel
theorem zd_X_remember_87 : decode zb_X_remember 87 = .ok (.return_, 1) := by decide +kernel
theorem zd_X_withLatest_0 : decode zb_X_withLatest 0 = .ok (.sipush 255, 3) := by decide +kernel
theorem zd_X_withLatest_3 : decode zb_X_withLatest 3 = .ok (.istore_n 2, 1) := by decide +kernel
theorem zd_X_withLatest_4 : decode zb_X_withLatest 4 = .ok (.iload_n 0, 1) := by decide +kernel
theorem zd_X_withLatest_5 : decode zb_X_withLatest 5 = .ok (.iconst 1, 1) := by decide +kernel
theorem zd_X_withLatest_6 : decode zb_X_withLatest 6 = .ok (.ishl, 1) := by decide +kernel
theorem zd_X_withLatest_7 : decode zb_X_withLatest 7 = .ok (.iload_n 1, 1) := by decide +kernel
theorem zd_X_withLatest_8 : decode zb_X_withLatest 8 = .ok (.ifCond .eq 7, 3) := by decide +kernel
theorem zd_X_withLatest_11 : decode zb_X_withLatest 11 = .ok (.iconst 1, 1) := by decide +kernel
theorem zd_X_withLatest_12 : decode zb_X_withLatest 12 = .ok (.goto 4, 3) := by decide +kernel
theorem zd_X_withLatest_15 : decode zb_X_withLatest 15 = .ok (.iconst 0, 1) := by decide +kernel
theorem zd_X_withLatest_16 : decode zb_X_withLatest 16 = .ok (.ior, 1) := by decide +kernel
theorem zd_X_withLatest_17 : decode zb_X_withLatest 17 = .ok (.iload_n 2, 1) := by decide +kernel
theorem zd_X_withLatest_18 : decode zb_X_withLatest 18 = .ok (.iand, 1) := by decide +kernel
theorem zd_X_withLatest_19 : decode zb_X_withLatest 19 = .ok (.ireturn, 1) := by decide +kernel
theorem zd_X_clock_0 : decode zb_X_clock 0 = .ok (.aload_n 0, 1) := by decide +kernel
theorem zd_X_clock_1 : decode zb_X_clock 1 = .ok (.getfield 40, 3) := by decide +kernel
theorem zd_X_clock_4 : decode zb_X_clock 4 = .ok (.ireturn, 1) := by decide +kernel
theorem zd_X_state_0 : decode zb_X_state 0 = .ok (.aload_n 0, 1) := by decide +kernel
theorem zd_X_state_1 : decode zb_X_state 1 = .ok (.iload_n 1, 1) := by decide +kernel
theorem zd_X_state_2 : decode zb_X_state 2 = .ok (.invokevirtual 88, 3) := by decide +kernel
theorem zd_X_state_5 : decode zb_X_state 5 = .ok (.astore_n 2, 1) := by decide +kernel
theorem zd_X_state_6 : decode zb_X_state 6 = .ok (.aload_n 2, 1) := by decide +kernel
theorem zd_X_state_7 : decode zb_X_state 7 = .ok (.ifnonnull 7, 3) := by decide +kernel
theorem zd_X_state_10 : decode zb_X_state 10 = .ok (.iconst (-1), 1) := by decide +kernel
theorem zd_X_state_11 : decode zb_X_state 11 = .ok (.goto 7, 3) := by decide +kernel
theorem zd_X_state_14 : decode zb_X_state 14 = .ok (.aload_n 2, 1) := by decide +kernel
theorem zd_X_state_15 : decode zb_X_state 15 = .ok (.getfield 92, 3) := by decide +kernel
theorem zd_X_state_18 : decode zb_X_state 18 = .ok (.ireturn, 1) := by decide +kernel
theorem zd_X_frameAt_0 : decode zb_X_frameAt 0 = .ok (.iload_n 1, 1) := by decide +kernel
theorem zd_X_frameAt_1 : decode zb_X_frameAt 1 = .ok (.ifCond .lt 20, 3) := by decide +kernel
theorem zd_X_frameAt_4 : decode zb_X_frameAt 4 = .ok (.iload_n 1, 1) := by decide +kernel
theorem zd_X_frameAt_5 : decode zb_X_frameAt 5 = .ok (.aload_n 0, 1) := by decide +kernel
theorem zd_X_frameAt_6 : decode zb_X_frameAt 6 = .ok (.getfield 37, 3) := by decide +kernel
theorem zd_X_frameAt_9 : decode zb_X_frameAt 9 = .ok (.if_icmp .ge 12, 3) := by decide +kernel
theorem zd_X_frameAt_12 : decode zb_X_frameAt 12 = .ok (.aload_n 0, 1) := by decide +kernel
theorem zd_X_frameAt_13 : decode zb_X_frameAt 13 = .ok (.getfield 29, 3) := by decide +kernel
theorem zd_X_frameAt_16 : decode zb_X_frameAt 16 = .ok (.iload_n 1, 1) := by decide +kernel
theorem zd_X_frameAt_17 : decode zb_X_frameAt 17 = .ok (.aaload, 1) := by decide +kernel
theorem zd_X_frameAt_18 : decode zb_X_frameAt 18 = .ok (.goto 4, 3) := by decide +kernel
theorem zd_X_frameAt_21 : decode zb_X_frameAt 21 = .ok (.aconst_null, 1) := by decide +kernel
theorem zd_X_frameAt_22 : decode zb_X_frameAt 22 = .ok (.areturn, 1) := by decide +kernel
theorem zd_X_node_0 : decode zb_X_node 0 = .ok (.aload_n 0, 1) := by decide +kernel
theorem zd_X_node_1 : decode zb_X_node 1 = .ok (.iload_n 1, 1) := by decide +kernel
theorem zd_X_node_2 : decode zb_X_node 2 = .ok (.invokevirtual 88, 3) := by decide +kernel
theorem zd_X_node_5 : decode zb_X_node 5 = .ok (.astore_n 2, 1) := by decide +kernel
theorem zd_X_node_6 : decode zb_X_node 6 = .ok (.aload_n 2, 1) := by decide +kernel
theorem zd_X_node_7 : decode zb_X_node 7 = .ok (.ifnonnull 7, 3) := by decide +kernel
theorem zd_X_node_10 : decode zb_X_node 10 = .ok (.iconst (-1), 1) := by decide +kernel
theorem zd_X_node_11 : decode zb_X_node 11 = .ok (.goto 7, 3) := by decide +kernel
theorem zd_X_node_14 : decode zb_X_node 14 = .ok (.aload_n 2, 1) := by decide +kernel
theorem zd_X_node_15 : decode zb_X_node 15 = .ok (.getfield 95, 3) := by decide +kernel
theorem zd_X_node_18 : decode zb_X_node 18 = .ok (.ireturn, 1) := by decide +kernel
theorem zd_X_marked_0 : decode zb_X_marked 0 = .ok (.aload_n 0, 1) := by decide +kernel
theorem zd_X_marked_1 : decode zb_X_marked 1 = .ok (.iload_n 1, 1) := by decide +kernel
theorem zd_X_marked_2 : decode zb_X_marked 2 = .ok (.invokevirtual 88, 3) := by decide +kernel
theorem zd_X_marked_5 : decode zb_X_marked 5 = .ok (.astore_n 2, 1) := by decide +kernel
theorem zd_X_marked_6 : decode zb_X_marked 6 = .ok (.aload_n 2, 1) := by decide +kernel
theorem zd_X_marked_7 : decode zb_X_marked 7 = .ok (.ifnull 14, 3) := by decide +kernel
theorem zd_X_marked_10 : decode zb_X_marked 10 = .ok (.aload_n 2, 1) := by decide +kernel
theorem zd_X_marked_11 : decode zb_X_marked 11 = .ok (.getfield 98, 3) := by decide +kernel
theorem zd_X_marked_14 : decode zb_X_marked 14 = .ok (.ifCond .eq 7, 3) := by decide +kernel
theorem zd_X_marked_17 : decode zb_X_marked 17 = .ok (.iconst 1, 1) := by decide +kernel
theorem zd_X_marked_18 : decode zb_X_marked 18 = .ok (.goto 4, 3) := by decide +kernel
theorem zd_X_marked_21 : decode zb_X_marked 21 = .ok (.iconst 0, 1) := by decide +kernel
theorem zd_X_marked_22 : decode zb_X_marked 22 = .ok (.ireturn, 1) := by decide +kernel
theorem zd_X_queued_0 : decode zb_X_queued 0 = .ok (.aload_n 0, 1) := by decide +kernel
theorem zd_X_queued_1 : decode zb_X_queued 1 = .ok (.iload_n 1, 1) := by decide +kernel
theorem zd_X_queued_2 : decode zb_X_queued 2 = .ok (.iload_n 2, 1) := by decide +kernel
theorem zd_X_queued_3 : decode zb_X_queued 3 = .ok (.invokevirtual 102, 3) := by decide +kernel
theorem zd_X_queued_6 : decode zb_X_queued 6 = .ok (.astore 4, 2) := by decide +kernel
theorem zd_X_queued_8 : decode zb_X_queued 8 = .ok (.aload 4, 2) := by decide +kernel
theorem zd_X_queued_10 : decode zb_X_queued 10 = .ok (.ifnull 10, 3) := by decide +kernel
theorem zd_X_queued_13 : decode zb_X_queued 13 = .ok (.iload_n 3, 1) := by decide +kernel
theorem zd_X_queued_14 : decode zb_X_queued 14 = .ok (.invokestatic 63, 3) := by decide +kernel
theorem zd_X_queued_17 : decode zb_X_queued 17 = .ok (.ifCond .ne 7, 3) := by decide +kernel
theorem zd_X_queued_20 : decode zb_X_queued 20 = .ok (.iconst (-1), 1) := by decide +kernel
theorem zd_X_queued_21 : decode zb_X_queued 21 = .ok (.goto 13, 3) := by decide +kernel
theorem zd_X_queued_24 : decode zb_X_queued 24 = .ok (.aload 4, 2) := by decide +kernel
theorem zd_X_queued_26 : decode zb_X_queued 26 = .ok (.getfield 106, 3) := by decide +kernel
theorem zd_X_queued_29 : decode zb_X_queued 29 = .ok (.iload_n 3, 1) := by decide +kernel
theorem zd_X_queued_30 : decode zb_X_queued 30 = .ok (.aaload, 1) := by decide +kernel
theorem zd_X_queued_31 : decode zb_X_queued 31 = .ok (.getfield 112, 3) := by decide +kernel
theorem zd_X_queued_34 : decode zb_X_queued 34 = .ok (.ireturn, 1) := by decide +kernel
theorem zd_X_held_0 : decode zb_X_held 0 = .ok (.aload_n 0, 1) := by decide +kernel
theorem zd_X_held_1 : decode zb_X_held 1 = .ok (.iload_n 1, 1) := by decide +kernel
theorem zd_X_held_2 : decode zb_X_held 2 = .ok (.iload_n 2, 1) := by decide +kernel
theorem zd_X_held_3 : decode zb_X_held 3 = .ok (.invokevirtual 102, 3) := by decide +kernel
theorem zd_X_held_6 : decode zb_X_held 6 = .ok (.astore 4, 2) := by decide +kernel
theorem zd_X_held_8 : decode zb_X_held 8 = .ok (.aload 4, 2) := by decide +kernel
theorem zd_X_held_10 : decode zb_X_held 10 = .ok (.ifnull 10, 3) := by decide +kernel
theorem zd_X_held_13 : decode zb_X_held 13 = .ok (.iload_n 3, 1) := by decide +kernel
theorem zd_X_held_14 : decode zb_X_held 14 = .ok (.invokestatic 63, 3) := by decide +kernel
theorem zd_X_held_17 : decode zb_X_held 17 = .ok (.ifCond .ne 7, 3) := by decide +kernel
theorem zd_X_held_20 : decode zb_X_held 20 = .ok (.iconst (-1), 1) := by decide +kernel
theorem zd_X_held_21 : decode zb_X_held 21 = .ok (.goto 10, 3) := by decide +kernel
theorem zd_X_held_24 : decode zb_X_held 24 = .ok (.aload 4, 2) := by decide +kernel
theorem zd_X_held_26 : decode zb_X_held 26 = .ok (.getfield 117, 3) := by decide +kernel
theorem zd_X_held_29 : decode zb_X_held 29 = .ok (.iload_n 3, 1) := by decide +kernel
theorem zd_X_held_30 : decode zb_X_held 30 = .ok (.iaload, 1) := by decide +kernel
theorem zd_X_held_31 : decode zb_X_held 31 = .ok (.ireturn, 1) := by decide +kernel
theorem zd_X_asks_0 : decode zb_X_asks 0 = .ok (.aload_n 0, 1) := by decide +kernel
theorem zd_X_asks_1 : decode zb_X_asks 1 = .ok (.iload_n 1, 1) := by decide +kernel
theorem zd_X_asks_2 : decode zb_X_asks 2 = .ok (.iload_n 2, 1) := by decide +kernel
theorem zd_X_asks_3 : decode zb_X_asks 3 = .ok (.invokevirtual 102, 3) := by decide +kernel
theorem zd_X_asks_6 : decode zb_X_asks 6 = .ok (.astore_n 3, 1) := by decide +kernel
theorem zd_X_asks_7 : decode zb_X_asks 7 = .ok (.aload_n 3, 1) := by decide +kernel
theorem zd_X_asks_8 : decode zb_X_asks 8 = .ok (.ifnull 14, 3) := by decide +kernel
theorem zd_X_asks_11 : decode zb_X_asks 11 = .ok (.aload_n 3, 1) := by decide +kernel
theorem zd_X_asks_12 : decode zb_X_asks 12 = .ok (.getfield 120, 3) := by decide +kernel
theorem zd_X_asks_15 : decode zb_X_asks 15 = .ok (.ifCond .eq 7, 3) := by decide +kernel
theorem zd_X_asks_18 : decode zb_X_asks 18 = .ok (.iconst 1, 1) := by decide +kernel
theorem zd_X_asks_19 : decode zb_X_asks 19 = .ok (.goto 4, 3) := by decide +kernel
theorem zd_X_asks_22 : decode zb_X_asks 22 = .ok (.iconst 0, 1) := by decide +kernel
theorem zd_X_asks_23 : decode zb_X_asks 23 = .ok (.ireturn, 1) := by decide +kernel
theorem zd_X_paused_0 : decode zb_X_paused 0 = .ok (.aload_n 0, 1) := by decide +kernel
theorem zd_X_paused_1 : decode zb_X_paused 1 = .ok (.iload_n 1, 1) := by decide +kernel
theorem zd_X_paused_2 : decode zb_X_paused 2 = .ok (.iload_n 2, 1) := by decide +kernel
theorem zd_X_paused_3 : decode zb_X_paused 3 = .ok (.invokevirtual 102, 3) := by decide +kernel
theorem zd_X_paused_6 : decode zb_X_paused 6 = .ok (.astore_n 3, 1) := by decide +kernel
theorem zd_X_paused_7 : decode zb_X_paused 7 = .ok (.aload_n 3, 1) := by decide +kernel
theorem zd_X_paused_8 : decode zb_X_paused 8 = .ok (.ifnull 14, 3) := by decide +kernel
theorem zd_X_paused_11 : decode zb_X_paused 11 = .ok (.aload_n 3, 1) := by decide +kernel
theorem zd_X_paused_12 : decode zb_X_paused 12 = .ok (.getfield 123, 3) := by decide +kernel
theorem zd_X_paused_15 : decode zb_X_paused 15 = .ok (.ifCond .eq 7, 3) := by decide +kernel
theorem zd_X_paused_18 : decode zb_X_paused 18 = .ok (.iconst 1, 1) := by decide +kernel
theorem zd_X_paused_19 : decode zb_X_paused 19 = .ok (.goto 4, 3) := by decide +kernel
theorem zd_X_paused_22 : decode zb_X_paused 22 = .ok (.iconst 0, 1) := by decide +kernel
theorem zd_X_paused_23 : decode zb_X_paused 23 = .ok (.ireturn, 1) := by decide +kernel
theorem zd_X_rate_0 : decode zb_X_rate 0 = .ok (.aload_n 0, 1) := by decide +kernel
theorem zd_X_rate_1 : decode zb_X_rate 1 = .ok (.iload_n 1, 1) := by decide +kernel
theorem zd_X_rate_2 : decode zb_X_rate 2 = .ok (.invokevirtual 73, 3) := by decide +kernel
theorem zd_X_rate_5 : decode zb_X_rate 5 = .ok (.astore_n 2, 1) := by decide +kernel
theorem zd_X_rate_6 : decode zb_X_rate 6 = .ok (.aload_n 2, 1) := by decide +kernel
theorem zd_X_rate_7 : decode zb_X_rate 7 = .ok (.ifnonnull 7, 3) := by decide +kernel
theorem zd_X_rate_10 : decode zb_X_rate 10 = .ok (.iconst 0, 1) := by decide +kernel
theorem zd_X_rate_11 : decode zb_X_rate 11 = .ok (.goto 7, 3) := by decide +kernel
theorem zd_X_rate_14 : decode zb_X_rate 14 = .ok (.aload_n 2, 1) := by decide +kernel
theorem zd_X_rate_15 : decode zb_X_rate 15 = .ok (.getfield 126, 3) := by decide +kernel
theorem zd_X_rate_18 : decode zb_X_rate 18 = .ok (.ireturn, 1) := by decide +kernel
theorem zd_X_alpha_0 : decode zb_X_alpha 0 = .ok (.aload_n 0, 1) := by decide +kernel
theorem zd_X_alpha_1 : decode zb_X_alpha 1 = .ok (.iload_n 1, 1) := by decide +kernel
theorem zd_X_alpha_2 : decode zb_X_alpha 2 = .ok (.invokevirtual 73, 3) := by decide +kernel
theorem zd_X_alpha_5 : decode zb_X_alpha 5 = .ok (.astore_n 2, 1) := by decide +kernel
theorem zd_X_alpha_6 : decode zb_X_alpha 6 = .ok (.aload_n 2, 1) := by decide +kernel
theorem zd_X_alpha_7 : decode zb_X_alpha 7 = .ok (.ifnonnull 7, 3) := by decide +kernel
theorem zd_X_alpha_10 : decode zb_X_alpha 10 = .ok (.iconst 0, 1) := by decide +kernel
theorem zd_X_alpha_11 : decode zb_X_alpha 11 = .ok (.goto 7, 3) := by decide +kernel
theorem zd_X_alpha_14 : decode zb_X_alpha 14 = .ok (.aload_n 2, 1) := by decide +kernel
theorem zd_X_alpha_15 : decode zb_X_alpha 15 = .ok (.getfield 129, 3) := by decide +kernel
theorem zd_X_alpha_18 : decode zb_X_alpha 18 = .ok (.ireturn, 1) := by decide +kernel
theorem zd_X_received_0 : decode zb_X_received 0 = .ok (.aload_n 0, 1) := by decide +kernel
theorem zd_X_received_1 : decode zb_X_received 1 = .ok (.iload_n 1, 1) := by decide +kernel
theorem zd_X_received_2 : decode zb_X_received 2 = .ok (.invokevirtual 73, 3) := by decide +kernel
theorem zd_X_received_5 : decode zb_X_received 5 = .ok (.astore_n 2, 1) := by decide +kernel
theorem zd_X_received_6 : decode zb_X_received 6 = .ok (.aload_n 2, 1) := by decide +kernel
theorem zd_X_received_7 : decode zb_X_received 7 = .ok (.ifnonnull 7, 3) := by decide +kernel
theorem zd_X_received_10 : decode zb_X_received 10 = .ok (.iconst 0, 1) := by decide +kernel
theorem zd_X_received_11 : decode zb_X_received 11 = .ok (.goto 7, 3) := by decide +kernel
theorem zd_X_received_14 : decode zb_X_received 14 = .ok (.aload_n 2, 1) := by decide +kernel
theorem zd_X_received_15 : decode zb_X_received 15 = .ok (.getfield 132, 3) := by decide +kernel
theorem zd_X_received_18 : decode zb_X_received 18 = .ok (.ireturn, 1) := by decide +kernel
theorem zd_X_dropped_0 : decode zb_X_dropped 0 = .ok (.aload_n 0, 1) := by decide +kernel
theorem zd_X_dropped_1 : decode zb_X_dropped 1 = .ok (.iload_n 1, 1) := by decide +kernel
theorem zd_X_dropped_2 : decode zb_X_dropped 2 = .ok (.invokevirtual 73, 3) := by decide +kernel
theorem zd_X_dropped_5 : decode zb_X_dropped 5 = .ok (.astore_n 2, 1) := by decide +kernel
theorem zd_X_dropped_6 : decode zb_X_dropped 6 = .ok (.aload_n 2, 1) := by decide +kernel
theorem zd_X_dropped_7 : decode zb_X_dropped 7 = .ok (.ifnonnull 7, 3) := by decide +kernel
theorem zd_X_dropped_10 : decode zb_X_dropped 10 = .ok (.iconst 0, 1) := by decide +kernel
theorem zd_X_dropped_11 : decode zb_X_dropped 11 = .ok (.goto 7, 3) := by decide +kernel
theorem zd_X_dropped_14 : decode zb_X_dropped 14 = .ok (.aload_n 2, 1) := by decide +kernel
theorem zd_X_dropped_15 : decode zb_X_dropped 15 = .ok (.getfield 135, 3) := by decide +kernel
theorem zd_X_dropped_18 : decode zb_X_dropped 18 = .ok (.ireturn, 1) := by decide +kernel
theorem zd_X_last_0 : decode zb_X_last 0 = .ok (.aload_n 0, 1) := by decide +kernel
theorem zd_X_last_1 : decode zb_X_last 1 = .ok (.iload_n 1, 1) := by decide +kernel
theorem zd_X_last_2 : decode zb_X_last 2 = .ok (.invokevirtual 73, 3) := by decide +kernel
theorem zd_X_last_5 : decode zb_X_last 5 = .ok (.astore_n 2, 1) := by decide +kernel
theorem zd_X_last_6 : decode zb_X_last 6 = .ok (.aload_n 2, 1) := by decide +kernel
theorem zd_X_last_7 : decode zb_X_last 7 = .ok (.ifnonnull 7, 3) := by decide +kernel
theorem zd_X_last_10 : decode zb_X_last 10 = .ok (.iconst (-1), 1) := by decide +kernel
theorem zd_X_last_11 : decode zb_X_last 11 = .ok (.goto 7, 3) := by decide +kernel
theorem zd_X_last_14 : decode zb_X_last 14 = .ok (.aload_n 2, 1) := by decide +kernel
theorem zd_X_last_15 : decode zb_X_last 15 = .ok (.getfield 138, 3) := by decide +kernel
theorem zd_X_last_18 : decode zb_X_last 18 = .ok (.ireturn, 1) := by decide +kernel
theorem zd_L_cell_0 : decode zb_L_cell 0 = .ok (.iload_n 1, 1) := by decide +kernel
theorem zd_L_cell_1 : decode zb_L_cell 1 = .ok (.aload_n 0, 1) := by decide +kernel
theorem zd_L_cell_2 : decode zb_L_cell 2 = .ok (.arraylength, 1) := by decide +kernel
theorem zd_L_cell_3 : decode zb_L_cell 3 = .ok (.if_icmp .ge 9, 3) := by decide +kernel
theorem zd_L_cell_6 : decode zb_L_cell 6 = .ok (.aload_n 0, 1) := by decide +kernel
theorem zd_L_cell_7 : decode zb_L_cell 7 = .ok (.iload_n 1, 1) := by decide +kernel
theorem zd_L_cell_8 : decode zb_L_cell 8 = .ok (.iaload, 1) := by decide +kernel
theorem zd_L_cell_9 : decode zb_L_cell 9 = .ok (.goto 4, 3) := by decide +kernel
theorem zd_L_cell_12 : decode zb_L_cell 12 = .ok (.iconst 0, 1) := by decide +kernel
theorem zd_L_cell_13 : decode zb_L_cell 13 = .ok (.ireturn, 1) := by decide +kernel
