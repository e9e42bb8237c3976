theorem d_Bus_init_0 : decode b_Bus_init 0 = .ok (.aload_n 0, 1) := by decide +kernel
theorem d_Bus_init_1 : decode b_Bus_init 1 = .ok (.invokespecial 1, 3) := by decide +kernel
theorem d_Bus_init_4 : decode b_Bus_init 4 = .ok (.aload_n 0, 1) := by decide +kernel
theorem d_Bus_init_5 : decode b_Bus_init 5 = .ok (.new 7, 3) := by decide +kernel
theorem d_Bus_init_8 : decode b_Bus_init 8 = .ok (.dup, 1) := by decide +kernel
theorem d_Bus_init_9 : decode b_Bus_init 9 = .ok (.invokespecial 9, 3) := by decide +kernel
theorem d_Bus_init_12 : decode b_Bus_init 12 = .ok (.putfield 10, 3) := by decide +kernel
theorem d_Bus_init_15 : decode b_Bus_init 15 = .ok (.iconst 2, 1) := by decide +kernel
theorem d_Bus_init_16 : decode b_Bus_init 16 = .ok (.iconst 4, 1) := by decide +kernel
theorem d_Bus_init_17 : decode b_Bus_init 17 = .ok (.iload_n 1, 1) := by decide +kernel
theorem d_Bus_init_18 : decode b_Bus_init 18 = .ok (.invokestatic 16, 3) := by decide +kernel
theorem d_Bus_init_21 : decode b_Bus_init 21 = .ok (.invokestatic 22, 3) := by decide +kernel
theorem d_Bus_init_24 : decode b_Bus_init 24 = .ok (.istore_n 3, 1) := by decide +kernel
theorem d_Bus_init_25 : decode b_Bus_init 25 = .ok (.iconst 1, 1) := by decide +kernel
theorem d_Bus_init_26 : decode b_Bus_init 26 = .ok (.iconst 3, 1) := by decide +kernel
theorem d_Bus_init_27 : decode b_Bus_init 27 = .ok (.iload_n 2, 1) := by decide +kernel
theorem d_Bus_init_28 : decode b_Bus_init 28 = .ok (.invokestatic 16, 3) := by decide +kernel
theorem d_Bus_init_31 : decode b_Bus_init 31 = .ok (.invokestatic 22, 3) := by decide +kernel
theorem d_Bus_init_34 : decode b_Bus_init 34 = .ok (.istore 4, 2) := by decide +kernel
theorem d_Bus_init_36 : decode b_Bus_init 36 = .ok (.aload_n 0, 1) := by decide +kernel
theorem d_Bus_init_37 : decode b_Bus_init 37 = .ok (.iload_n 3, 1) := by decide +kernel
theorem d_Bus_init_38 : decode b_Bus_init 38 = .ok (.anewarray 25, 3) := by decide +kernel
theorem d_Bus_init_41 : decode b_Bus_init 41 = .ok (.putfield 27, 3) := by decide +kernel
theorem d_Bus_init_44 : decode b_Bus_init 44 = .ok (.iconst 0, 1) := by decide +kernel
theorem d_Bus_init_45 : decode b_Bus_init 45 = .ok (.istore 5, 2) := by decide +kernel
theorem d_Bus_init_47 : decode b_Bus_init 47 = .ok (.iload 5, 2) := by decide +kernel
theorem d_Bus_init_49 : decode b_Bus_init 49 = .ok (.iload_n 3, 1) := by decide +kernel
theorem d_Bus_init_50 : decode b_Bus_init 50 = .ok (.if_icmp .ge 36, 3) := by decide +kernel
theorem d_Bus_init_53 : decode b_Bus_init 53 = .ok (.aload_n 0, 1) := by decide +kernel
theorem d_Bus_init_54 : decode b_Bus_init 54 = .ok (.getfield 27, 3) := by decide +kernel
theorem d_Bus_init_57 : decode b_Bus_init 57 = .ok (.iload 5, 2) := by decide +kernel
theorem d_Bus_init_59 : decode b_Bus_init 59 = .ok (.new 25, 3) := by decide +kernel
theorem d_Bus_init_62 : decode b_Bus_init 62 = .ok (.dup, 1) := by decide +kernel
theorem d_Bus_init_63 : decode b_Bus_init 63 = .ok (.new 31, 3) := by decide +kernel
theorem d_Bus_init_66 : decode b_Bus_init 66 = .ok (.dup, 1) := by decide +kernel
theorem d_Bus_init_67 : decode b_Bus_init 67 = .ok (.aload_n 0, 1) := by decide +kernel
theorem d_Bus_init_68 : decode b_Bus_init 68 = .ok (.getfield 10, 3) := by decide +kernel
theorem d_Bus_init_71 : decode b_Bus_init 71 = .ok (.iload 4, 2) := by decide +kernel
theorem d_Bus_init_73 : decode b_Bus_init 73 = .ok (.invokespecial 33, 3) := by decide +kernel
theorem d_Bus_init_76 : decode b_Bus_init 76 = .ok (.invokespecial 36, 3) := by decide +kernel
theorem d_Bus_init_79 : decode b_Bus_init 79 = .ok (.aastore, 1) := by decide +kernel
theorem d_Bus_init_80 : decode b_Bus_init 80 = .ok (.iinc 5 1, 3) := by decide +kernel
theorem d_Bus_init_83 : decode b_Bus_init 83 = .ok (.goto (-36), 3) := by decide +kernel
theorem d_Bus_init_86 : decode b_Bus_init 86 = .ok (.aload_n 0, 1) := by decide +kernel
theorem d_Bus_init_87 : decode b_Bus_init 87 = .ok (.iload_n 3, 1) := by decide +kernel
theorem d_Bus_init_88 : decode b_Bus_init 88 = .ok (.iconst 1, 1) := by decide +kernel
theorem d_Bus_init_89 : decode b_Bus_init 89 = .ok (.isub, 1) := by decide +kernel
theorem d_Bus_init_90 : decode b_Bus_init 90 = .ok (.putfield 39, 3) := by decide +kernel
theorem d_Bus_init_93 : decode b_Bus_init 93 = .ok (.return_, 1) := by decide +kernel
theorem d_Mem_init_0 : decode b_Mem_init 0 = .ok (.aload_n 0, 1) := by decide +kernel
theorem d_Mem_init_1 : decode b_Mem_init 1 = .ok (.invokespecial 3, 3) := by decide +kernel
theorem d_Mem_init_4 : decode b_Mem_init 4 = .ok (.aload_n 0, 1) := by decide +kernel
theorem d_Mem_init_5 : decode b_Mem_init 5 = .ok (.bipush 32, 2) := by decide +kernel
theorem d_Mem_init_7 : decode b_Mem_init 7 = .ok (.newarray .int, 2) := by decide +kernel
theorem d_Mem_init_9 : decode b_Mem_init 9 = .ok (.putfield 9, 3) := by decide +kernel
theorem d_Mem_init_12 : decode b_Mem_init 12 = .ok (.return_, 1) := by decide +kernel
theorem d_Cache_init_0 : decode b_Cache_init 0 = .ok (.aload_n 0, 1) := by decide +kernel
theorem d_Cache_init_1 : decode b_Cache_init 1 = .ok (.invokespecial 3, 3) := by decide +kernel
theorem d_Cache_init_4 : decode b_Cache_init 4 = .ok (.aload_n 0, 1) := by decide +kernel
theorem d_Cache_init_5 : decode b_Cache_init 5 = .ok (.bipush 8, 2) := by decide +kernel
theorem d_Cache_init_7 : decode b_Cache_init 7 = .ok (.newarray .int, 2) := by decide +kernel
theorem d_Cache_init_9 : decode b_Cache_init 9 = .ok (.putfield 9, 3) := by decide +kernel
theorem d_Cache_init_12 : decode b_Cache_init 12 = .ok (.aload_n 0, 1) := by decide +kernel
theorem d_Cache_init_13 : decode b_Cache_init 13 = .ok (.bipush 8, 2) := by decide +kernel
theorem d_Cache_init_15 : decode b_Cache_init 15 = .ok (.newarray .int, 2) := by decide +kernel
theorem d_Cache_init_17 : decode b_Cache_init 17 = .ok (.putfield 15, 3) := by decide +kernel
theorem d_Cache_init_20 : decode b_Cache_init 20 = .ok (.aload_n 0, 1) := by decide +kernel
theorem d_Cache_init_21 : decode b_Cache_init 21 = .ok (.bipush 32, 2) := by decide +kernel
theorem d_Cache_init_23 : decode b_Cache_init 23 = .ok (.newarray .int, 2) := by decide +kernel
theorem d_Cache_init_25 : decode b_Cache_init 25 = .ok (.putfield 18, 3) := by decide +kernel
theorem d_Cache_init_28 : decode b_Cache_init 28 = .ok (.aload_n 0, 1) := by decide +kernel
theorem d_Cache_init_29 : decode b_Cache_init 29 = .ok (.aload_n 1, 1) := by decide +kernel
theorem d_Cache_init_30 : decode b_Cache_init 30 = .ok (.putfield 21, 3) := by decide +kernel
theorem d_Cache_init_33 : decode b_Cache_init 33 = .ok (.aload_n 0, 1) := by decide +kernel
theorem d_Cache_init_34 : decode b_Cache_init 34 = .ok (.iload_n 2, 1) := by decide +kernel
theorem d_Cache_init_35 : decode b_Cache_init 35 = .ok (.putfield 25, 3) := by decide +kernel
theorem d_Cache_init_38 : decode b_Cache_init 38 = .ok (.return_, 1) := by decide +kernel
theorem d_Core_init_0 : decode b_Core_init 0 = .ok (.aload_n 0, 1) := by decide +kernel
theorem d_Core_init_1 : decode b_Core_init 1 = .ok (.invokespecial 3, 3) := by decide +kernel
theorem d_Core_init_4 : decode b_Core_init 4 = .ok (.aload_n 0, 1) := by decide +kernel
theorem d_Core_init_5 : decode b_Core_init 5 = .ok (.iconst 4, 1) := by decide +kernel
theorem d_Core_init_6 : decode b_Core_init 6 = .ok (.newarray .int, 2) := by decide +kernel
theorem d_Core_init_8 : decode b_Core_init 8 = .ok (.putfield 9, 3) := by decide +kernel
theorem d_Core_init_11 : decode b_Core_init 11 = .ok (.aload_n 0, 1) := by decide +kernel
theorem d_Core_init_12 : decode b_Core_init 12 = .ok (.iconst 4, 1) := by decide +kernel
theorem d_Core_init_13 : decode b_Core_init 13 = .ok (.newarray .int, 2) := by decide +kernel
theorem d_Core_init_15 : decode b_Core_init 15 = .ok (.putfield 15, 3) := by decide +kernel
theorem d_Core_init_18 : decode b_Core_init 18 = .ok (.aload_n 0, 1) := by decide +kernel
theorem d_Core_init_19 : decode b_Core_init 19 = .ok (.iconst 0, 1) := by decide +kernel
theorem d_Core_init_20 : decode b_Core_init 20 = .ok (.putfield 18, 3) := by decide +kernel
theorem d_Core_init_23 : decode b_Core_init 23 = .ok (.aload_n 0, 1) := by decide +kernel
theorem d_Core_init_24 : decode b_Core_init 24 = .ok (.aload_n 1, 1) := by decide +kernel
theorem d_Core_init_25 : decode b_Core_init 25 = .ok (.putfield 22, 3) := by decide +kernel
theorem d_Core_init_28 : decode b_Core_init 28 = .ok (.return_, 1) := by decide +kernel
theorem d_Bus_load_0 : decode b_Bus_load 0 = .ok (.aload_n 0, 1) := by decide +kernel
theorem d_Bus_load_1 : decode b_Bus_load 1 = .ok (.iload_n 1, 1) := by decide +kernel
theorem d_Bus_load_2 : decode b_Bus_load 2 = .ok (.invokevirtual 43, 3) := by decide +kernel
theorem d_Bus_load_5 : decode b_Bus_load 5 = .ok (.ifCond .eq 10, 3) := by decide +kernel
theorem d_Bus_load_8 : decode b_Bus_load 8 = .ok (.iload_n 2, 1) := by decide +kernel
theorem d_Bus_load_9 : decode b_Bus_load 9 = .ok (.invokestatic 47, 3) := by decide +kernel
theorem d_Bus_load_12 : decode b_Bus_load 12 = .ok (.ifCond .ne 5, 3) := by decide +kernel
theorem d_Bus_load_15 : decode b_Bus_load 15 = .ok (.iconst (-1), 1) := by decide +kernel
theorem d_Bus_load_16 : decode b_Bus_load 16 = .ok (.ireturn, 1) := by decide +kernel
theorem d_Bus_load_17 : decode b_Bus_load 17 = .ok (.aload_n 0, 1) := by decide +kernel
theorem d_Bus_load_18 : decode b_Bus_load 18 = .ok (.getfield 27, 3) := by decide +kernel
theorem d_Bus_load_21 : decode b_Bus_load 21 = .ok (.iload_n 1, 1) := by decide +kernel
theorem d_Bus_load_22 : decode b_Bus_load 22 = .ok (.aaload, 1) := by decide +kernel
theorem d_Bus_load_23 : decode b_Bus_load 23 = .ok (.astore_n 3, 1) := by decide +kernel
theorem d_Bus_load_24 : decode b_Bus_load 24 = .ok (.aload_n 3, 1) := by decide +kernel
theorem d_Bus_load_25 : decode b_Bus_load 25 = .ok (.invokevirtual 50, 3) := by decide +kernel
theorem d_Bus_load_28 : decode b_Bus_load 28 = .ok (.ifCond .eq 6, 3) := by decide +kernel
theorem d_Bus_load_31 : decode b_Bus_load 31 = .ok (.bipush (-2), 2) := by decide +kernel
theorem d_Bus_load_33 : decode b_Bus_load 33 = .ok (.ireturn, 1) := by decide +kernel
theorem d_Bus_load_34 : decode b_Bus_load 34 = .ok (.aload_n 3, 1) := by decide +kernel
theorem d_Bus_load_35 : decode b_Bus_load 35 = .ok (.iload_n 2, 1) := by decide +kernel
theorem d_Bus_load_36 : decode b_Bus_load 36 = .ok (.invokevirtual 54, 3) := by decide +kernel
theorem d_Bus_load_39 : decode b_Bus_load 39 = .ok (.istore 4, 2) := by decide +kernel
theorem d_Bus_load_41 : decode b_Bus_load 41 = .ok (.iload 4, 2) := by decide +kernel
theorem d_Bus_load_43 : decode b_Bus_load 43 = .ok (.iconst (-1), 1) := by decide +kernel
theorem d_Bus_load_44 : decode b_Bus_load 44 = .ok (.if_icmp .eq 16, 3) := by decide +kernel
theorem d_Bus_load_47 : decode b_Bus_load 47 = .ok (.aload_n 3, 1) := by decide +kernel
theorem d_Bus_load_48 : decode b_Bus_load 48 = .ok (.aload_n 3, 1) := by decide +kernel
theorem d_Bus_load_49 : decode b_Bus_load 49 = .ok (.getfield 58, 3) := by decide +kernel
theorem d_Bus_load_52 : decode b_Bus_load 52 = .ok (.iload 4, 2) := by decide +kernel
theorem d_Bus_load_54 : decode b_Bus_load 54 = .ok (.iaload, 1) := by decide +kernel
theorem d_Bus_load_55 : decode b_Bus_load 55 = .ok (.putfield 62, 3) := by decide +kernel
theorem d_Bus_load_58 : decode b_Bus_load 58 = .ok (.iconst 0, 1) := by decide +kernel
theorem d_Bus_load_59 : decode b_Bus_load 59 = .ok (.ireturn, 1) := by decide +kernel
theorem d_Bus_load_60 : decode b_Bus_load 60 = .ok (.aload_n 3, 1) := by decide +kernel
theorem d_Bus_load_61 : decode b_Bus_load 61 = .ok (.getfield 65, 3) := by decide +kernel
theorem d_Bus_load_64 : decode b_Bus_load 64 = .ok (.iload_n 2, 1) := by decide +kernel
theorem d_Bus_load_65 : decode b_Bus_load 65 = .ok (.invokestatic 69, 3) := by decide +kernel
theorem d_Bus_load_68 : decode b_Bus_load 68 = .ok (.invokevirtual 72, 3) := by decide +kernel
theorem d_Bus_load_71 : decode b_Bus_load 71 = .ok (.ifCond .eq 29, 3) := by decide +kernel
theorem d_Bus_load_74 : decode b_Bus_load 74 = .ok (.aload_n 3, 1) := by decide +kernel
theorem d_Bus_load_75 : decode b_Bus_load 75 = .ok (.aload_n 3, 1) := by decide +kernel
theorem d_Bus_load_76 : decode b_Bus_load 76 = .ok (.getfield 65, 3) := by decide +kernel
theorem d_Bus_load_79 : decode b_Bus_load 79 = .ok (.getfield 75, 3) := by decide +kernel
theorem d_Bus_load_82 : decode b_Bus_load 82 = .ok (.iload_n 2, 1) := by decide +kernel
theorem d_Bus_load_83 : decode b_Bus_load 83 = .ok (.iaload, 1) := by decide +kernel
theorem d_Bus_load_84 : decode b_Bus_load 84 = .ok (.putfield 62, 3) := by decide +kernel
theorem d_Bus_load_87 : decode b_Bus_load 87 = .ok (.aload_n 3, 1) := by decide +kernel
theorem d_Bus_load_88 : decode b_Bus_load 88 = .ok (.getfield 65, 3) := by decide +kernel
theorem d_Bus_load_91 : decode b_Bus_load 91 = .ok (.iload_n 2, 1) := by decide +kernel
theorem d_Bus_load_92 : decode b_Bus_load 92 = .ok (.invokestatic 69, 3) := by decide +kernel
theorem d_Bus_load_95 : decode b_Bus_load 95 = .ok (.invokevirtual 78, 3) := by decide +kernel
theorem d_Bus_load_98 : decode b_Bus_load 98 = .ok (.iconst 0, 1) := by decide +kernel
theorem d_Bus_load_99 : decode b_Bus_load 99 = .ok (.ireturn, 1) := by decide +kernel
theorem d_Bus_load_100 : decode b_Bus_load 100 = .ok (.aload_n 3, 1) := by decide +kernel
theorem d_Bus_load_101 : decode b_Bus_load 101 = .ok (.iconst 1, 1) := by decide +kernel
theorem d_Bus_load_102 : decode b_Bus_load 102 = .ok (.iload_n 2, 1) := by decide +kernel
theorem d_Bus_load_103 : decode b_Bus_load 103 = .ok (.iconst 0, 1) := by decide +kernel
theorem d_Bus_load_104 : decode b_Bus_load 104 = .ok (.invokevirtual 82, 3) := by decide +kernel
theorem d_Bus_load_107 : decode b_Bus_load 107 = .ok (.iconst 1, 1) := by decide +kernel
theorem d_Bus_load_108 : decode b_Bus_load 108 = .ok (.ireturn, 1) := by decide +kernel
theorem d_Bus_isCore_0 : decode b_Bus_isCore 0 = .ok (.iload_n 1, 1) := by decide +kernel
theorem d_Bus_isCore_1 : decode b_Bus_isCore 1 = .ok (.ifCond .lt 16, 3) := by decide +kernel
theorem d_Bus_isCore_4 : decode b_Bus_isCore 4 = .ok (.iload_n 1, 1) := by decide +kernel
theorem d_Bus_isCore_5 : decode b_Bus_isCore 5 = .ok (.aload_n 0, 1) := by decide +kernel
theorem d_Bus_isCore_6 : decode b_Bus_isCore 6 = .ok (.getfield 27, 3) := by decide +kernel
theorem d_Bus_isCore_9 : decode b_Bus_isCore 9 = .ok (.arraylength, 1) := by decide +kernel
theorem d_Bus_isCore_10 : decode b_Bus_isCore 10 = .ok (.if_icmp .ge 7, 3) := by decide +kernel
theorem d_Bus_isCore_13 : decode b_Bus_isCore 13 = .ok (.iconst 1, 1) := by decide +kernel
theorem d_Bus_isCore_14 : decode b_Bus_isCore 14 = .ok (.goto 4, 3) := by decide +kernel
theorem d_Bus_isCore_17 : decode b_Bus_isCore 17 = .ok (.iconst 0, 1) := by decide +kernel
theorem d_Bus_isCore_18 : decode b_Bus_isCore 18 = .ok (.ireturn, 1) := by decide +kernel
theorem d_Bus_isAddress_0 : decode b_Bus_isAddress 0 = .ok (.iload_n 0, 1) := by decide +kernel
theorem d_Bus_isAddress_1 : decode b_Bus_isAddress 1 = .ok (.ifCond .lt 13, 3) := by decide +kernel
theorem d_Bus_isAddress_4 : decode b_Bus_isAddress 4 = .ok (.iload_n 0, 1) := by decide +kernel
theorem d_Bus_isAddress_5 : decode b_Bus_isAddress 5 = .ok (.bipush 32, 2) := by decide +kernel
theorem d_Bus_isAddress_7 : decode b_Bus_isAddress 7 = .ok (.if_icmp .ge 7, 3) := by decide +kernel
theorem d_Bus_isAddress_10 : decode b_Bus_isAddress 10 = .ok (.iconst 1, 1) := by decide +kernel
theorem d_Bus_isAddress_11 : decode b_Bus_isAddress 11 = .ok (.goto 4, 3) := by decide +kernel
theorem d_Bus_isAddress_14 : decode b_Bus_isAddress 14 = .ok (.iconst 0, 1) := by decide +kernel
theorem d_Bus_isAddress_15 : decode b_Bus_isAddress 15 = .ok (.ireturn, 1) := by decide +kernel
theorem d_Core_waits_0 : decode b_Core_waits 0 = .ok (.aload_n 0, 1) := by decide +kernel
theorem d_Core_waits_1 : decode b_Core_waits 1 = .ok (.getfield 18, 3) := by decide +kernel
theorem d_Core_waits_4 : decode b_Core_waits 4 = .ok (.ifCond .eq 7, 3) := by decide +kernel
theorem d_Core_waits_7 : decode b_Core_waits 7 = .ok (.iconst 1, 1) := by decide +kernel
theorem d_Core_waits_8 : decode b_Core_waits 8 = .ok (.goto 4, 3) := by decide +kernel
theorem d_Core_waits_11 : decode b_Core_waits 11 = .ok (.iconst 0, 1) := by decide +kernel
theorem d_Core_waits_12 : decode b_Core_waits 12 = .ok (.ireturn, 1) := by decide +kernel
theorem d_Core_newestStoreTo_0 : decode b_Core_newestStoreTo 0 = .ok (.aload_n 0, 1) := by decide +kernel
theorem d_Core_newestStoreTo_1 : decode b_Core_newestStoreTo 1 = .ok (.getfield 32, 3) := by decide +kernel
theorem d_Core_newestStoreTo_4 : decode b_Core_newestStoreTo 4 = .ok (.iconst 1, 1) := by decide +kernel
theorem d_Core_newestStoreTo_5 : decode b_Core_newestStoreTo 5 = .ok (.isub, 1) := by decide +kernel
theorem d_Core_newestStoreTo_6 : decode b_Core_newestStoreTo 6 = .ok (.istore_n 2, 1) := by decide +kernel
theorem d_Core_newestStoreTo_7 : decode b_Core_newestStoreTo 7 = .ok (.iload_n 2, 1) := by decide +kernel
theorem d_Core_newestStoreTo_8 : decode b_Core_newestStoreTo 8 = .ok (.ifCond .lt 21, 3) := by decide +kernel
theorem d_Core_newestStoreTo_11 : decode b_Core_newestStoreTo 11 = .ok (.aload_n 0, 1) := by decide +kernel
theorem d_Core_newestStoreTo_12 : decode b_Core_newestStoreTo 12 = .ok (.getfield 9, 3) := by decide +kernel
theorem d_Core_newestStoreTo_15 : decode b_Core_newestStoreTo 15 = .ok (.iload_n 2, 1) := by decide +kernel
theorem d_Core_newestStoreTo_16 : decode b_Core_newestStoreTo 16 = .ok (.iaload, 1) := by decide +kernel
theorem d_Core_newestStoreTo_17 : decode b_Core_newestStoreTo 17 = .ok (.iload_n 1, 1) := by decide +kernel
theorem d_Core_newestStoreTo_18 : decode b_Core_newestStoreTo 18 = .ok (.if_icmp .ne 5, 3) := by decide +kernel
theorem d_Core_newestStoreTo_21 : decode b_Core_newestStoreTo 21 = .ok (.iload_n 2, 1) := by decide +kernel
theorem d_Core_newestStoreTo_22 : decode b_Core_newestStoreTo 22 = .ok (.ireturn, 1) := by decide +kernel
theorem d_Core_newestStoreTo_23 : decode b_Core_newestStoreTo 23 = .ok (.iinc 2 (-1), 3) := by decide +kernel
theorem d_Core_newestStoreTo_26 : decode b_Core_newestStoreTo 26 = .ok (.goto (-19), 3) := by decide +kernel
theorem d_Core_newestStoreTo_29 : decode b_Core_newestStoreTo 29 = .ok (.iconst (-1), 1) := by decide +kernel
theorem d_Core_newestStoreTo_30 : decode b_Core_newestStoreTo 30 = .ok (.ireturn, 1) := by decide +kernel
theorem d_Bus_lineOf_0 : decode b_Bus_lineOf 0 = .ok (.iload_n 0, 1) := by decide +kernel
theorem d_Bus_lineOf_1 : decode b_Bus_lineOf 1 = .ok (.iconst 4, 1) := by decide +kernel
theorem d_Bus_lineOf_2 : decode b_Bus_lineOf 2 = .ok (.idiv, 1) := by decide +kernel
theorem d_Bus_lineOf_3 : decode b_Bus_lineOf 3 = .ok (.ireturn, 1) := by decide +kernel
theorem d_Cache_holds_0 : decode b_Cache_holds 0 = .ok (.aload_n 0, 1) := by decide +kernel
theorem d_Cache_holds_1 : decode b_Cache_holds 1 = .ok (.getfield 9, 3) := by decide +kernel
theorem d_Cache_holds_4 : decode b_Cache_holds 4 = .ok (.iload_n 1, 1) := by decide +kernel
theorem d_Cache_holds_5 : decode b_Cache_holds 5 = .ok (.iaload, 1) := by decide +kernel
theorem d_Cache_holds_6 : decode b_Cache_holds 6 = .ok (.ifCond .eq 7, 3) := by decide +kernel
theorem d_Cache_holds_9 : decode b_Cache_holds 9 = .ok (.iconst 1, 1) := by decide +kernel
theorem d_Cache_holds_10 : decode b_Cache_holds 10 = .ok (.goto 4, 3) := by decide +kernel
theorem d_Cache_holds_13 : decode b_Cache_holds 13 = .ok (.iconst 0, 1) := by decide +kernel
theorem d_Cache_holds_14 : decode b_Cache_holds 14 = .ok (.ireturn, 1) := by decide +kernel
theorem d_Cache_use_0 : decode b_Cache_use 0 = .ok (.aload_n 0, 1) := by decide +kernel
theorem d_Cache_use_1 : decode b_Cache_use 1 = .ok (.dup, 1) := by decide +kernel
theorem d_Cache_use_2 : decode b_Cache_use 2 = .ok (.getfield 29, 3) := by decide +kernel
theorem d_Cache_use_5 : decode b_Cache_use 5 = .ok (.iconst 1, 1) := by decide +kernel
theorem d_Cache_use_6 : decode b_Cache_use 6 = .ok (.iadd, 1) := by decide +kernel
theorem d_Cache_use_7 : decode b_Cache_use 7 = .ok (.putfield 29, 3) := by decide +kernel
theorem d_Cache_use_10 : decode b_Cache_use 10 = .ok (.aload_n 0, 1) := by decide +kernel
theorem d_Cache_use_11 : decode b_Cache_use 11 = .ok (.getfield 15, 3) := by decide +kernel
theorem d_Cache_use_14 : decode b_Cache_use 14 = .ok (.iload_n 1, 1) := by decide +kernel
theorem d_Cache_use_15 : decode b_Cache_use 15 = .ok (.aload_n 0, 1) := by decide +kernel
theorem d_Cache_use_16 : decode b_Cache_use 16 = .ok (.getfield 29, 3) := by decide +kernel
theorem d_Cache_use_19 : decode b_Cache_use 19 = .ok (.iastore, 1) := by decide +kernel
theorem d_Cache_use_20 : decode b_Cache_use 20 = .ok (.return_, 1) := by decide +kernel
theorem d_Core_ask_0 : decode b_Core_ask 0 = .ok (.aload_n 0, 1) := by decide +kernel
theorem d_Core_ask_1 : decode b_Core_ask 1 = .ok (.iload_n 1, 1) := by decide +kernel
theorem d_Core_ask_2 : decode b_Core_ask 2 = .ok (.putfield 18, 3) := by decide +kernel
theorem d_Core_ask_5 : decode b_Core_ask 5 = .ok (.aload_n 0, 1) := by decide +kernel
theorem d_Core_ask_6 : decode b_Core_ask 6 = .ok (.iload_n 2, 1) := by decide +kernel
theorem d_Core_ask_7 : decode b_Core_ask 7 = .ok (.putfield 26, 3) := by decide +kernel
theorem d_Core_ask_10 : decode b_Core_ask 10 = .ok (.aload_n 0, 1) := by decide +kernel
theorem d_Core_ask_11 : decode b_Core_ask 11 = .ok (.iload_n 3, 1) := by decide +kernel
theorem d_Core_ask_12 : decode b_Core_ask 12 = .ok (.putfield 29, 3) := by decide +kernel
theorem d_Core_ask_15 : decode b_Core_ask 15 = .ok (.return_, 1) := by decide +kernel
theorem d_Bus_store_0 : decode b_Bus_store 0 = .ok (.aload_n 0, 1) := by decide +kernel
theorem d_Bus_store_1 : decode b_Bus_store 1 = .ok (.iload_n 1, 1) := by decide +kernel
theorem d_Bus_store_2 : decode b_Bus_store 2 = .ok (.invokevirtual 43, 3) := by decide +kernel
theorem d_Bus_store_5 : decode b_Bus_store 5 = .ok (.ifCond .eq 10, 3) := by decide +kernel
theorem d_Bus_store_8 : decode b_Bus_store 8 = .ok (.iload_n 2, 1) := by decide +kernel
theorem d_Bus_store_9 : decode b_Bus_store 9 = .ok (.invokestatic 47, 3) := by decide +kernel
theorem d_Bus_store_12 : decode b_Bus_store 12 = .ok (.ifCond .ne 5, 3) := by decide +kernel
theorem d_Bus_store_15 : decode b_Bus_store 15 = .ok (.iconst (-1), 1) := by decide +kernel
theorem d_Bus_store_16 : decode b_Bus_store 16 = .ok (.ireturn, 1) := by decide +kernel
theorem d_Bus_store_17 : decode b_Bus_store 17 = .ok (.aload_n 0, 1) := by decide +kernel
theorem d_Bus_store_18 : decode b_Bus_store 18 = .ok (.getfield 27, 3) := by decide +kernel
theorem d_Bus_store_21 : decode b_Bus_store 21 = .ok (.iload_n 1, 1) := by decide +kernel
theorem d_Bus_store_22 : decode b_Bus_store 22 = .ok (.aaload, 1) := by decide +kernel
theorem d_Bus_store_23 : decode b_Bus_store 23 = .ok (.astore 4, 2) := by decide +kernel
theorem d_Bus_store_25 : decode b_Bus_store 25 = .ok (.aload 4, 2) := by decide +kernel
theorem d_Bus_store_27 : decode b_Bus_store 27 = .ok (.invokevirtual 50, 3) := by decide +kernel
theorem d_Bus_store_30 : decode b_Bus_store 30 = .ok (.ifCond .eq 6, 3) := by decide +kernel
theorem d_Bus_store_33 : decode b_Bus_store 33 = .ok (.bipush (-2), 2) := by decide +kernel
theorem d_Bus_store_35 : decode b_Bus_store 35 = .ok (.ireturn, 1) := by decide +kernel
theorem d_Bus_store_36 : decode b_Bus_store 36 = .ok (.aload 4, 2) := by decide +kernel
theorem d_Bus_store_38 : decode b_Bus_store 38 = .ok (.getfield 86, 3) := by decide +kernel
theorem d_Bus_store_41 : decode b_Bus_store 41 = .ok (.iconst 4, 1) := by decide +kernel
theorem d_Bus_store_42 : decode b_Bus_store 42 = .ok (.if_icmp .lt 6, 3) := by decide +kernel
theorem d_Bus_store_45 : decode b_Bus_store 45 = .ok (.bipush (-3), 2) := by decide +kernel
theorem d_Bus_store_47 : decode b_Bus_store 47 = .ok (.ireturn, 1) := by decide +kernel
theorem d_Bus_store_48 : decode b_Bus_store 48 = .ok (.aload 4, 2) := by decide +kernel
theorem d_Bus_store_50 : decode b_Bus_store 50 = .ok (.iload_n 2, 1) := by decide +kernel
theorem d_Bus_store_51 : decode b_Bus_store 51 = .ok (.iload_n 3, 1) := by decide +kernel
theorem d_Bus_store_52 : decode b_Bus_store 52 = .ok (.invokevirtual 89, 3) := by decide +kernel
theorem d_Bus_store_55 : decode b_Bus_store 55 = .ok (.aload 4, 2) := by decide +kernel
theorem d_Bus_store_57 : decode b_Bus_store 57 = .ok (.getfield 86, 3) := by decide +kernel
theorem d_Bus_store_60 : decode b_Bus_store 60 = .ok (.ireturn, 1) := by decide +kernel
theorem d_Core_appendStore_0 : decode b_Core_appendStore 0 = .ok (.aload_n 0, 1) := by decide +kernel
theorem d_Core_appendStore_1 : decode b_Core_appendStore 1 = .ok (.getfield 9, 3) := by decide +kernel
theorem d_Core_appendStore_4 : decode b_Core_appendStore 4 = .ok (.aload_n 0, 1) := by decide +kernel
theorem d_Core_appendStore_5 : decode b_Core_appendStore 5 = .ok (.getfield 32, 3) := by decide +kernel
theorem d_Core_appendStore_8 : decode b_Core_appendStore 8 = .ok (.iload_n 1, 1) := by decide +kernel
theorem d_Core_appendStore_9 : decode b_Core_appendStore 9 = .ok (.iastore, 1) := by decide +kernel
theorem d_Core_appendStore_10 : decode b_Core_appendStore 10 = .ok (.aload_n 0, 1) := by decide +kernel
theorem d_Core_appendStore_11 : decode b_Core_appendStore 11 = .ok (.getfield 15, 3) := by decide +kernel
theorem d_Core_appendStore_14 : decode b_Core_appendStore 14 = .ok (.aload_n 0, 1) := by decide +kernel
theorem d_Core_appendStore_15 : decode b_Core_appendStore 15 = .ok (.getfield 32, 3) := by decide +kernel
theorem d_Core_appendStore_18 : decode b_Core_appendStore 18 = .ok (.iload_n 2, 1) := by decide +kernel
theorem d_Core_appendStore_19 : decode b_Core_appendStore 19 = .ok (.iastore, 1) := by decide +kernel
theorem d_Core_appendStore_20 : decode b_Core_appendStore 20 = .ok (.aload_n 0, 1) := by decide +kernel
theorem d_Core_appendStore_21 : decode b_Core_appendStore 21 = .ok (.dup, 1) := by decide +kernel
theorem d_Core_appendStore_22 : decode b_Core_appendStore 22 = .ok (.getfield 32, 3) := by decide +kernel
theorem d_Core_appendStore_25 : decode b_Core_appendStore 25 = .ok (.iconst 1, 1) := by decide +kernel
theorem d_Core_appendStore_26 : decode b_Core_appendStore 26 = .ok (.iadd, 1) := by decide +kernel
theorem d_Core_appendStore_27 : decode b_Core_appendStore 27 = .ok (.putfield 32, 3) := by decide +kernel
theorem d_Core_appendStore_30 : decode b_Core_appendStore 30 = .ok (.return_, 1) := by decide +kernel
theorem d_Bus_drain_0 : decode b_Bus_drain 0 = .ok (.aload_n 0, 1) := by decide +kernel
theorem d_Bus_drain_1 : decode b_Bus_drain 1 = .ok (.iload_n 1, 1) := by decide +kernel
theorem d_Bus_drain_2 : decode b_Bus_drain 2 = .ok (.invokevirtual 43, 3) := by decide +kernel
theorem d_Bus_drain_5 : decode b_Bus_drain 5 = .ok (.ifCond .ne 5, 3) := by decide +kernel
theorem d_Bus_drain_8 : decode b_Bus_drain 8 = .ok (.iconst (-1), 1) := by decide +kernel
theorem d_Bus_drain_9 : decode b_Bus_drain 9 = .ok (.ireturn, 1) := by decide +kernel
theorem d_Bus_drain_10 : decode b_Bus_drain 10 = .ok (.aload_n 0, 1) := by decide +kernel
theorem d_Bus_drain_11 : decode b_Bus_drain 11 = .ok (.getfield 27, 3) := by decide +kernel
theorem d_Bus_drain_14 : decode b_Bus_drain 14 = .ok (.iload_n 1, 1) := by decide +kernel
theorem d_Bus_drain_15 : decode b_Bus_drain 15 = .ok (.aaload, 1) := by decide +kernel
theorem d_Bus_drain_16 : decode b_Bus_drain 16 = .ok (.astore_n 2, 1) := by decide +kernel
theorem d_Bus_drain_17 : decode b_Bus_drain 17 = .ok (.aload_n 2, 1) := by decide +kernel
theorem d_Bus_drain_18 : decode b_Bus_drain 18 = .ok (.invokevirtual 50, 3) := by decide +kernel
theorem d_Bus_drain_21 : decode b_Bus_drain 21 = .ok (.ifCond .eq 6, 3) := by decide +kernel
theorem d_Bus_drain_24 : decode b_Bus_drain 24 = .ok (.bipush (-2), 2) := by decide +kernel
theorem d_Bus_drain_26 : decode b_Bus_drain 26 = .ok (.ireturn, 1) := by decide +kernel
theorem d_Bus_drain_27 : decode b_Bus_drain 27 = .ok (.aload_n 2, 1) := by decide +kernel
theorem d_Bus_drain_28 : decode b_Bus_drain 28 = .ok (.getfield 86, 3) := by decide +kernel
theorem d_Bus_drain_31 : decode b_Bus_drain 31 = .ok (.ifCond .ne 6, 3) := by decide +kernel
theorem d_Bus_drain_34 : decode b_Bus_drain 34 = .ok (.bipush (-4), 2) := by decide +kernel
theorem d_Bus_drain_36 : decode b_Bus_drain 36 = .ok (.ireturn, 1) := by decide +kernel
theorem d_Bus_drain_37 : decode b_Bus_drain 37 = .ok (.aload_n 2, 1) := by decide +kernel
theorem d_Bus_drain_38 : decode b_Bus_drain 38 = .ok (.iconst 2, 1) := by decide +kernel
theorem d_Bus_drain_39 : decode b_Bus_drain 39 = .ok (.aload_n 2, 1) := by decide +kernel
theorem d_Bus_drain_40 : decode b_Bus_drain 40 = .ok (.getfield 93, 3) := by decide +kernel
theorem d_Bus_drain_43 : decode b_Bus_drain 43 = .ok (.iconst 0, 1) := by decide +kernel
theorem d_Bus_drain_44 : decode b_Bus_drain 44 = .ok (.iaload, 1) := by decide +kernel
theorem d_Bus_drain_45 : decode b_Bus_drain 45 = .ok (.aload_n 2, 1) := by decide +kernel
theorem d_Bus_drain_46 : decode b_Bus_drain 46 = .ok (.getfield 58, 3) := by decide +kernel
theorem d_Bus_drain_49 : decode b_Bus_drain 49 = .ok (.iconst 0, 1) := by decide +kernel
theorem d_Bus_drain_50 : decode b_Bus_drain 50 = .ok (.iaload, 1) := by decide +kernel
theorem d_Bus_drain_51 : decode b_Bus_drain 51 = .ok (.invokevirtual 96, 3) := by decide +kernel
theorem d_Bus_drain_54 : decode b_Bus_drain 54 = .ok (.ireturn, 1) := by decide +kernel
theorem d_Core_changeOrAsk_0 : decode b_Core_changeOrAsk 0 = .ok (.aload_n 0, 1) := by decide +kernel
theorem d_Core_changeOrAsk_1 : decode b_Core_changeOrAsk 1 = .ok (.getfield 22, 3) := by decide +kernel
theorem d_Core_changeOrAsk_4 : decode b_Core_changeOrAsk 4 = .ok (.iload_n 2, 1) := by decide +kernel
theorem d_Core_changeOrAsk_5 : decode b_Core_changeOrAsk 5 = .ok (.invokestatic 35, 3) := by decide +kernel
theorem d_Core_changeOrAsk_8 : decode b_Core_changeOrAsk 8 = .ok (.invokevirtual 39, 3) := by decide +kernel
theorem d_Core_changeOrAsk_11 : decode b_Core_changeOrAsk 11 = .ok (.ifCond .eq 12, 3) := by decide +kernel
theorem d_Core_changeOrAsk_14 : decode b_Core_changeOrAsk 14 = .ok (.aload_n 0, 1) := by decide +kernel
theorem d_Core_changeOrAsk_15 : decode b_Core_changeOrAsk 15 = .ok (.iload_n 1, 1) := by decide +kernel
theorem d_Core_changeOrAsk_16 : decode b_Core_changeOrAsk 16 = .ok (.iload_n 2, 1) := by decide +kernel
theorem d_Core_changeOrAsk_17 : decode b_Core_changeOrAsk 17 = .ok (.iload_n 3, 1) := by decide +kernel
theorem d_Core_changeOrAsk_18 : decode b_Core_changeOrAsk 18 = .ok (.invokevirtual 45, 3) := by decide +kernel
theorem d_Core_changeOrAsk_21 : decode b_Core_changeOrAsk 21 = .ok (.iconst 0, 1) := by decide +kernel
theorem d_Core_changeOrAsk_22 : decode b_Core_changeOrAsk 22 = .ok (.ireturn, 1) := by decide +kernel
theorem d_Core_changeOrAsk_23 : decode b_Core_changeOrAsk 23 = .ok (.aload_n 0, 1) := by decide +kernel
theorem d_Core_changeOrAsk_24 : decode b_Core_changeOrAsk 24 = .ok (.iload_n 1, 1) := by decide +kernel
theorem d_Core_changeOrAsk_25 : decode b_Core_changeOrAsk 25 = .ok (.iload_n 2, 1) := by decide +kernel
theorem d_Core_changeOrAsk_26 : decode b_Core_changeOrAsk 26 = .ok (.iload_n 3, 1) := by decide +kernel
theorem d_Core_changeOrAsk_27 : decode b_Core_changeOrAsk 27 = .ok (.invokevirtual 49, 3) := by decide +kernel
theorem d_Core_changeOrAsk_30 : decode b_Core_changeOrAsk 30 = .ok (.iconst 1, 1) := by decide +kernel
theorem d_Core_changeOrAsk_31 : decode b_Core_changeOrAsk 31 = .ok (.ireturn, 1) := by decide +kernel
theorem d_Cache_owns_0 : decode b_Cache_owns 0 = .ok (.aload_n 0, 1) := by decide +kernel
theorem d_Cache_owns_1 : decode b_Cache_owns 1 = .ok (.getfield 9, 3) := by decide +kernel
theorem d_Cache_owns_4 : decode b_Cache_owns 4 = .ok (.iload_n 1, 1) := by decide +kernel
theorem d_Cache_owns_5 : decode b_Cache_owns 5 = .ok (.iaload, 1) := by decide +kernel
theorem d_Cache_owns_6 : decode b_Cache_owns 6 = .ok (.iconst 2, 1) := by decide +kernel
theorem d_Cache_owns_7 : decode b_Cache_owns 7 = .ok (.if_icmp .eq 13, 3) := by decide +kernel
theorem d_Cache_owns_10 : decode b_Cache_owns 10 = .ok (.aload_n 0, 1) := by decide +kernel
theorem d_Cache_owns_11 : decode b_Cache_owns 11 = .ok (.getfield 9, 3) := by decide +kernel
theorem d_Cache_owns_14 : decode b_Cache_owns 14 = .ok (.iload_n 1, 1) := by decide +kernel
theorem d_Cache_owns_15 : decode b_Cache_owns 15 = .ok (.iaload, 1) := by decide +kernel
theorem d_Cache_owns_16 : decode b_Cache_owns 16 = .ok (.iconst 3, 1) := by decide +kernel
theorem d_Cache_owns_17 : decode b_Cache_owns 17 = .ok (.if_icmp .ne 7, 3) := by decide +kernel
theorem d_Cache_owns_20 : decode b_Cache_owns 20 = .ok (.iconst 1, 1) := by decide +kernel
theorem d_Cache_owns_21 : decode b_Cache_owns 21 = .ok (.goto 4, 3) := by decide +kernel
theorem d_Cache_owns_24 : decode b_Cache_owns 24 = .ok (.iconst 0, 1) := by decide +kernel
theorem d_Cache_owns_25 : decode b_Cache_owns 25 = .ok (.ireturn, 1) := by decide +kernel
theorem d_Core_change_0 : decode b_Core_change 0 = .ok (.iload_n 1, 1) := by decide +kernel
theorem d_Core_change_1 : decode b_Core_change 1 = .ok (.iconst 2, 1) := by decide +kernel
theorem d_Core_change_2 : decode b_Core_change 2 = .ok (.if_icmp .ne 17, 3) := by decide +kernel
theorem d_Core_change_5 : decode b_Core_change 5 = .ok (.aload_n 0, 1) := by decide +kernel
theorem d_Core_change_6 : decode b_Core_change 6 = .ok (.getfield 22, 3) := by decide +kernel
theorem d_Core_change_9 : decode b_Core_change 9 = .ok (.iload_n 2, 1) := by decide +kernel
theorem d_Core_change_10 : decode b_Core_change 10 = .ok (.iload_n 3, 1) := by decide +kernel
theorem d_Core_change_11 : decode b_Core_change 11 = .ok (.invokevirtual 52, 3) := by decide +kernel
theorem d_Core_change_14 : decode b_Core_change 14 = .ok (.aload_n 0, 1) := by decide +kernel
theorem d_Core_change_15 : decode b_Core_change 15 = .ok (.invokevirtual 56, 3) := by decide +kernel
theorem d_Core_change_18 : decode b_Core_change 18 = .ok (.return_, 1) := by decide +kernel
theorem d_Core_change_19 : decode b_Core_change 19 = .ok (.aload_n 0, 1) := by decide +kernel
theorem d_Core_change_20 : decode b_Core_change 20 = .ok (.getfield 22, 3) := by decide +kernel
theorem d_Core_change_23 : decode b_Core_change 23 = .ok (.getfield 59, 3) := by decide +kernel
theorem d_Core_change_26 : decode b_Core_change 26 = .ok (.iload_n 2, 1) := by decide +kernel
theorem d_Core_change_27 : decode b_Core_change 27 = .ok (.iaload, 1) := by decide +kernel
theorem d_Core_change_28 : decode b_Core_change 28 = .ok (.istore 4, 2) := by decide +kernel
theorem d_Core_change_30 : decode b_Core_change 30 = .ok (.aload_n 0, 1) := by decide +kernel
theorem d_Core_change_31 : decode b_Core_change 31 = .ok (.iload 4, 2) := by decide +kernel
theorem d_Core_change_33 : decode b_Core_change 33 = .ok (.putfield 62, 3) := by decide +kernel
theorem d_Core_change_36 : decode b_Core_change 36 = .ok (.aload_n 0, 1) := by decide +kernel
theorem d_Core_change_37 : decode b_Core_change 37 = .ok (.getfield 22, 3) := by decide +kernel
theorem d_Core_change_40 : decode b_Core_change 40 = .ok (.iload_n 2, 1) := by decide +kernel
theorem d_Core_change_41 : decode b_Core_change 41 = .ok (.iload_n 1, 1) := by decide +kernel
theorem d_Core_change_42 : decode b_Core_change 42 = .ok (.iconst 4, 1) := by decide +kernel
theorem d_Core_change_43 : decode b_Core_change 43 = .ok (.if_icmp .ne 10, 3) := by decide +kernel
theorem d_Core_change_46 : decode b_Core_change 46 = .ok (.iload 4, 2) := by decide +kernel
theorem d_Core_change_48 : decode b_Core_change 48 = .ok (.iload_n 3, 1) := by decide +kernel
theorem d_Core_change_49 : decode b_Core_change 49 = .ok (.iadd, 1) := by decide +kernel
theorem d_Core_change_50 : decode b_Core_change 50 = .ok (.goto 4, 3) := by decide +kernel
theorem d_Core_change_53 : decode b_Core_change 53 = .ok (.iload_n 3, 1) := by decide +kernel
theorem d_Core_change_54 : decode b_Core_change 54 = .ok (.invokevirtual 52, 3) := by decide +kernel
theorem d_Core_change_57 : decode b_Core_change 57 = .ok (.return_, 1) := by decide +kernel
theorem d_Cache_put_0 : decode b_Cache_put 0 = .ok (.iload_n 1, 1) := by decide +kernel
theorem d_Cache_put_1 : decode b_Cache_put 1 = .ok (.invokestatic 32, 3) := by decide +kernel
theorem d_Cache_put_4 : decode b_Cache_put 4 = .ok (.istore_n 3, 1) := by decide +kernel
theorem d_Cache_put_5 : decode b_Cache_put 5 = .ok (.aload_n 0, 1) := by decide +kernel
theorem d_Cache_put_6 : decode b_Cache_put 6 = .ok (.getfield 18, 3) := by decide +kernel
theorem d_Cache_put_9 : decode b_Cache_put 9 = .ok (.iload_n 1, 1) := by decide +kernel
theorem d_Cache_put_10 : decode b_Cache_put 10 = .ok (.iload_n 2, 1) := by decide +kernel
theorem d_Cache_put_11 : decode b_Cache_put 11 = .ok (.iastore, 1) := by decide +kernel
theorem d_Cache_put_12 : decode b_Cache_put 12 = .ok (.aload_n 0, 1) := by decide +kernel
theorem d_Cache_put_13 : decode b_Cache_put 13 = .ok (.getfield 9, 3) := by decide +kernel
theorem d_Cache_put_16 : decode b_Cache_put 16 = .ok (.iload_n 3, 1) := by decide +kernel
theorem d_Cache_put_17 : decode b_Cache_put 17 = .ok (.iconst 3, 1) := by decide +kernel
theorem d_Cache_put_18 : decode b_Cache_put 18 = .ok (.iastore, 1) := by decide +kernel
theorem d_Cache_put_19 : decode b_Cache_put 19 = .ok (.aload_n 0, 1) := by decide +kernel
theorem d_Cache_put_20 : decode b_Cache_put 20 = .ok (.iload_n 3, 1) := by decide +kernel
theorem d_Cache_put_21 : decode b_Cache_put 21 = .ok (.invokevirtual 36, 3) := by decide +kernel
theorem d_Cache_put_24 : decode b_Cache_put 24 = .ok (.return_, 1) := by decide +kernel
theorem d_Core_removeOldestStore_0 : decode b_Core_removeOldestStore 0 = .ok (.iconst 1, 1) := by decide +kernel
theorem d_Core_removeOldestStore_1 : decode b_Core_removeOldestStore 1 = .ok (.istore_n 1, 1) := by decide +kernel
theorem d_Core_removeOldestStore_2 : decode b_Core_removeOldestStore 2 = .ok (.iload_n 1, 1) := by decide +kernel
theorem d_Core_removeOldestStore_3 : decode b_Core_removeOldestStore 3 = .ok (.aload_n 0, 1) := by decide +kernel
theorem d_Core_removeOldestStore_4 : decode b_Core_removeOldestStore 4 = .ok (.getfield 32, 3) := by decide +kernel
theorem d_Core_removeOldestStore_7 : decode b_Core_removeOldestStore 7 = .ok (.if_icmp .ge 37, 3) := by decide +kernel
theorem d_Core_removeOldestStore_10 : decode b_Core_removeOldestStore 10 = .ok (.aload_n 0, 1) := by decide +kernel
theorem d_Core_removeOldestStore_11 : decode b_Core_removeOldestStore 11 = .ok (.getfield 9, 3) := by decide +kernel
theorem d_Core_removeOldestStore_14 : decode b_Core_removeOldestStore 14 = .ok (.iload_n 1, 1) := by decide +kernel
theorem d_Core_removeOldestStore_15 : decode b_Core_removeOldestStore 15 = .ok (.iconst 1, 1) := by decide +kernel
theorem d_Core_removeOldestStore_16 : decode b_Core_removeOldestStore 16 = .ok (.isub, 1) := by decide +kernel
theorem d_Core_removeOldestStore_17 : decode b_Core_removeOldestStore 17 = .ok (.aload_n 0, 1) := by decide +kernel
theorem d_Core_removeOldestStore_18 : decode b_Core_removeOldestStore 18 = .ok (.getfield 9, 3) := by decide +kernel
theorem d_Core_removeOldestStore_21 : decode b_Core_removeOldestStore 21 = .ok (.iload_n 1, 1) := by decide +kernel
theorem d_Core_removeOldestStore_22 : decode b_Core_removeOldestStore 22 = .ok (.iaload, 1) := by decide +kernel
theorem d_Core_removeOldestStore_23 : decode b_Core_removeOldestStore 23 = .ok (.iastore, 1) := by decide +kernel
theorem d_Core_removeOldestStore_24 : decode b_Core_removeOldestStore 24 = .ok (.aload_n 0, 1) := by decide +kernel
theorem d_Core_removeOldestStore_25 : decode b_Core_removeOldestStore 25 = .ok (.getfield 15, 3) := by decide +kernel
theorem d_Core_removeOldestStore_28 : decode b_Core_removeOldestStore 28 = .ok (.iload_n 1, 1) := by decide +kernel
theorem d_Core_removeOldestStore_29 : decode b_Core_removeOldestStore 29 = .ok (.iconst 1, 1) := by decide +kernel
theorem d_Core_removeOldestStore_30 : decode b_Core_removeOldestStore 30 = .ok (.isub, 1) := by decide +kernel
theorem d_Core_removeOldestStore_31 : decode b_Core_removeOldestStore 31 = .ok (.aload_n 0, 1) := by decide +kernel
theorem d_Core_removeOldestStore_32 : decode b_Core_removeOldestStore 32 = .ok (.getfield 15, 3) := by decide +kernel
theorem d_Core_removeOldestStore_35 : decode b_Core_removeOldestStore 35 = .ok (.iload_n 1, 1) := by decide +kernel
theorem d_Core_removeOldestStore_36 : decode b_Core_removeOldestStore 36 = .ok (.iaload, 1) := by decide +kernel
theorem d_Core_removeOldestStore_37 : decode b_Core_removeOldestStore 37 = .ok (.iastore, 1) := by decide +kernel
theorem d_Core_removeOldestStore_38 : decode b_Core_removeOldestStore 38 = .ok (.iinc 1 1, 3) := by decide +kernel
theorem d_Core_removeOldestStore_41 : decode b_Core_removeOldestStore 41 = .ok (.goto (-39), 3) := by decide +kernel
theorem d_Core_removeOldestStore_44 : decode b_Core_removeOldestStore 44 = .ok (.aload_n 0, 1) := by decide +kernel
theorem d_Core_removeOldestStore_45 : decode b_Core_removeOldestStore 45 = .ok (.dup, 1) := by decide +kernel
theorem d_Core_removeOldestStore_46 : decode b_Core_removeOldestStore 46 = .ok (.getfield 32, 3) := by decide +kernel
theorem d_Core_removeOldestStore_49 : decode b_Core_removeOldestStore 49 = .ok (.iconst 1, 1) := by decide +kernel
theorem d_Core_removeOldestStore_50 : decode b_Core_removeOldestStore 50 = .ok (.isub, 1) := by decide +kernel
theorem d_Core_removeOldestStore_51 : decode b_Core_removeOldestStore 51 = .ok (.putfield 32, 3) := by decide +kernel
theorem d_Core_removeOldestStore_54 : decode b_Core_removeOldestStore 54 = .ok (.return_, 1) := by decide +kernel
theorem d_Bus_swap_0 : decode b_Bus_swap 0 = .ok (.aload_n 0, 1) := by decide +kernel
theorem d_Bus_swap_1 : decode b_Bus_swap 1 = .ok (.iload_n 1, 1) := by decide +kernel
theorem d_Bus_swap_2 : decode b_Bus_swap 2 = .ok (.iconst 3, 1) := by decide +kernel
theorem d_Bus_swap_3 : decode b_Bus_swap 3 = .ok (.iload_n 2, 1) := by decide +kernel
theorem d_Bus_swap_4 : decode b_Bus_swap 4 = .ok (.iload_n 3, 1) := by decide +kernel
theorem d_Bus_swap_5 : decode b_Bus_swap 5 = .ok (.invokevirtual 100, 3) := by decide +kernel
theorem d_Bus_swap_8 : decode b_Bus_swap 8 = .ok (.ireturn, 1) := by decide +kernel
theorem d_Bus_changeAtOnce_0 : decode b_Bus_changeAtOnce 0 = .ok (.aload_n 0, 1) := by decide +kernel
theorem d_Bus_changeAtOnce_1 : decode b_Bus_changeAtOnce 1 = .ok (.iload_n 1, 1) := by decide +kernel
theorem d_Bus_changeAtOnce_2 : decode b_Bus_changeAtOnce 2 = .ok (.invokevirtual 43, 3) := by decide +kernel
theorem d_Bus_changeAtOnce_5 : decode b_Bus_changeAtOnce 5 = .ok (.ifCond .eq 10, 3) := by decide +kernel
theorem d_Bus_changeAtOnce_8 : decode b_Bus_changeAtOnce 8 = .ok (.iload_n 3, 1) := by decide +kernel
theorem d_Bus_changeAtOnce_9 : decode b_Bus_changeAtOnce 9 = .ok (.invokestatic 47, 3) := by decide +kernel
theorem d_Bus_changeAtOnce_12 : decode b_Bus_changeAtOnce 12 = .ok (.ifCond .ne 5, 3) := by decide +kernel
theorem d_Bus_changeAtOnce_15 : decode b_Bus_changeAtOnce 15 = .ok (.iconst (-1), 1) := by decide +kernel
theorem d_Bus_changeAtOnce_16 : decode b_Bus_changeAtOnce 16 = .ok (.ireturn, 1) := by decide +kernel
theorem d_Bus_changeAtOnce_17 : decode b_Bus_changeAtOnce 17 = .ok (.aload_n 0, 1) := by decide +kernel
theorem d_Bus_changeAtOnce_18 : decode b_Bus_changeAtOnce 18 = .ok (.getfield 27, 3) := by decide +kernel
theorem d_Bus_changeAtOnce_21 : decode b_Bus_changeAtOnce 21 = .ok (.iload_n 1, 1) := by decide +kernel
theorem d_Bus_changeAtOnce_22 : decode b_Bus_changeAtOnce 22 = .ok (.aaload, 1) := by decide +kernel
theorem d_Bus_changeAtOnce_23 : decode b_Bus_changeAtOnce 23 = .ok (.astore 5, 2) := by decide +kernel
theorem d_Bus_changeAtOnce_25 : decode b_Bus_changeAtOnce 25 = .ok (.aload 5, 2) := by decide +kernel
theorem d_Bus_changeAtOnce_27 : decode b_Bus_changeAtOnce 27 = .ok (.invokevirtual 50, 3) := by decide +kernel
theorem d_Bus_changeAtOnce_30 : decode b_Bus_changeAtOnce 30 = .ok (.ifCond .eq 6, 3) := by decide +kernel
theorem d_Bus_changeAtOnce_33 : decode b_Bus_changeAtOnce 33 = .ok (.bipush (-2), 2) := by decide +kernel
theorem d_Bus_changeAtOnce_35 : decode b_Bus_changeAtOnce 35 = .ok (.ireturn, 1) := by decide +kernel
theorem d_Bus_changeAtOnce_36 : decode b_Bus_changeAtOnce 36 = .ok (.aload 5, 2) := by decide +kernel
theorem d_Bus_changeAtOnce_38 : decode b_Bus_changeAtOnce 38 = .ok (.getfield 86, 3) := by decide +kernel
theorem d_Bus_changeAtOnce_41 : decode b_Bus_changeAtOnce 41 = .ok (.ifCond .eq 6, 3) := by decide +kernel
theorem d_Bus_changeAtOnce_44 : decode b_Bus_changeAtOnce 44 = .ok (.bipush (-4), 2) := by decide +kernel
theorem d_Bus_changeAtOnce_46 : decode b_Bus_changeAtOnce 46 = .ok (.ireturn, 1) := by decide +kernel
theorem d_Bus_changeAtOnce_47 : decode b_Bus_changeAtOnce 47 = .ok (.aload 5, 2) := by decide +kernel
theorem d_Bus_changeAtOnce_49 : decode b_Bus_changeAtOnce 49 = .ok (.iload_n 2, 1) := by decide +kernel
theorem d_Bus_changeAtOnce_50 : decode b_Bus_changeAtOnce 50 = .ok (.iload_n 3, 1) := by decide +kernel
theorem d_Bus_changeAtOnce_51 : decode b_Bus_changeAtOnce 51 = .ok (.iload 4, 2) := by decide +kernel
theorem d_Bus_changeAtOnce_53 : decode b_Bus_changeAtOnce 53 = .ok (.invokevirtual 96, 3) := by decide +kernel
theorem d_Bus_changeAtOnce_56 : decode b_Bus_changeAtOnce 56 = .ok (.ireturn, 1) := by decide +kernel
theorem d_Bus_add_0 : decode b_Bus_add 0 = .ok (.aload_n 0, 1) := by decide +kernel
theorem d_Bus_add_1 : decode b_Bus_add 1 = .ok (.iload_n 1, 1) := by decide +kernel
theorem d_Bus_add_2 : decode b_Bus_add 2 = .ok (.iconst 4, 1) := by decide +kernel
theorem d_Bus_add_3 : decode b_Bus_add 3 = .ok (.iload_n 2, 1) := by decide +kernel
theorem d_Bus_add_4 : decode b_Bus_add 4 = .ok (.iload_n 3, 1) := by decide +kernel
theorem d_Bus_add_5 : decode b_Bus_add 5 = .ok (.invokevirtual 100, 3) := by decide +kernel
theorem d_Bus_add_8 : decode b_Bus_add 8 = .ok (.ireturn, 1) := by decide +kernel
theorem d_Bus_bus_0 : decode b_Bus_bus 0 = .ok (.iconst 1, 1) := by decide +kernel
theorem d_Bus_bus_1 : decode b_Bus_bus 1 = .ok (.istore_n 1, 1) := by decide +kernel
theorem d_Bus_bus_2 : decode b_Bus_bus 2 = .ok (.iload_n 1, 1) := by decide +kernel
theorem d_Bus_bus_3 : decode b_Bus_bus 3 = .ok (.aload_n 0, 1) := by decide +kernel
theorem d_Bus_bus_4 : decode b_Bus_bus 4 = .ok (.getfield 27, 3) := by decide +kernel
theorem d_Bus_bus_7 : decode b_Bus_bus 7 = .ok (.arraylength, 1) := by decide +kernel
theorem d_Bus_bus_8 : decode b_Bus_bus 8 = .ok (.if_icmp .gt 41, 3) := by decide +kernel
theorem d_Bus_bus_11 : decode b_Bus_bus 11 = .ok (.aload_n 0, 1) := by decide +kernel
theorem d_Bus_bus_12 : decode b_Bus_bus 12 = .ok (.getfield 39, 3) := by decide +kernel
theorem d_Bus_bus_15 : decode b_Bus_bus 15 = .ok (.iload_n 1, 1) := by decide +kernel
theorem d_Bus_bus_16 : decode b_Bus_bus 16 = .ok (.iadd, 1) := by decide +kernel
theorem d_Bus_bus_17 : decode b_Bus_bus 17 = .ok (.aload_n 0, 1) := by decide +kernel
theorem d_Bus_bus_18 : decode b_Bus_bus 18 = .ok (.getfield 27, 3) := by decide +kernel
theorem d_Bus_bus_21 : decode b_Bus_bus 21 = .ok (.arraylength, 1) := by decide +kernel
theorem d_Bus_bus_22 : decode b_Bus_bus 22 = .ok (.irem, 1) := by decide +kernel
theorem d_Bus_bus_23 : decode b_Bus_bus 23 = .ok (.istore_n 2, 1) := by decide +kernel
theorem d_Bus_bus_24 : decode b_Bus_bus 24 = .ok (.aload_n 0, 1) := by decide +kernel
theorem d_Bus_bus_25 : decode b_Bus_bus 25 = .ok (.getfield 27, 3) := by decide +kernel
theorem d_Bus_bus_28 : decode b_Bus_bus 28 = .ok (.iload_n 2, 1) := by decide +kernel
theorem d_Bus_bus_29 : decode b_Bus_bus 29 = .ok (.aaload, 1) := by decide +kernel
theorem d_Bus_bus_30 : decode b_Bus_bus 30 = .ok (.invokevirtual 50, 3) := by decide +kernel
theorem d_Bus_bus_33 : decode b_Bus_bus 33 = .ok (.ifCond .eq 10, 3) := by decide +kernel
theorem d_Bus_bus_36 : decode b_Bus_bus 36 = .ok (.aload_n 0, 1) := by decide +kernel
theorem d_Bus_bus_37 : decode b_Bus_bus 37 = .ok (.iload_n 2, 1) := by decide +kernel
theorem d_Bus_bus_38 : decode b_Bus_bus 38 = .ok (.invokevirtual 104, 3) := by decide +kernel
theorem d_Bus_bus_41 : decode b_Bus_bus 41 = .ok (.iload_n 2, 1) := by decide +kernel
theorem d_Bus_bus_42 : decode b_Bus_bus 42 = .ok (.ireturn, 1) := by decide +kernel
theorem d_Bus_bus_43 : decode b_Bus_bus 43 = .ok (.iinc 1 1, 3) := by decide +kernel
theorem d_Bus_bus_46 : decode b_Bus_bus 46 = .ok (.goto (-44), 3) := by decide +kernel
theorem d_Bus_bus_49 : decode b_Bus_bus 49 = .ok (.bipush (-5), 2) := by decide +kernel
theorem d_Bus_bus_51 : decode b_Bus_bus 51 = .ok (.ireturn, 1) := by decide +kernel
theorem d_Bus_serve_0 : decode b_Bus_serve 0 = .ok (.aload_n 0, 1) := by decide +kernel
theorem d_Bus_serve_1 : decode b_Bus_serve 1 = .ok (.getfield 27, 3) := by decide +kernel
theorem d_Bus_serve_4 : decode b_Bus_serve 4 = .ok (.iload_n 1, 1) := by decide +kernel
theorem d_Bus_serve_5 : decode b_Bus_serve 5 = .ok (.aaload, 1) := by decide +kernel
theorem d_Bus_serve_6 : decode b_Bus_serve 6 = .ok (.astore_n 2, 1) := by decide +kernel
theorem d_Bus_serve_7 : decode b_Bus_serve 7 = .ok (.aload_n 2, 1) := by decide +kernel
theorem d_Bus_serve_8 : decode b_Bus_serve 8 = .ok (.getfield 116, 3) := by decide +kernel
theorem d_Bus_serve_11 : decode b_Bus_serve 11 = .ok (.iconst 1, 1) := by decide +kernel
theorem d_Bus_serve_12 : decode b_Bus_serve 12 = .ok (.if_icmp .ne 15, 3) := by decide +kernel
theorem d_Bus_serve_15 : decode b_Bus_serve 15 = .ok (.aload_n 0, 1) := by decide +kernel
theorem d_Bus_serve_16 : decode b_Bus_serve 16 = .ok (.iload_n 1, 1) := by decide +kernel
theorem d_Bus_serve_17 : decode b_Bus_serve 17 = .ok (.aload_n 2, 1) := by decide +kernel
theorem d_Bus_serve_18 : decode b_Bus_serve 18 = .ok (.getfield 119, 3) := by decide +kernel
theorem d_Bus_serve_21 : decode b_Bus_serve 21 = .ok (.invokevirtual 138, 3) := by decide +kernel
theorem d_Bus_serve_24 : decode b_Bus_serve 24 = .ok (.goto 31, 3) := by decide +kernel
theorem d_Bus_serve_27 : decode b_Bus_serve 27 = .ok (.aload_n 0, 1) := by decide +kernel
theorem d_Bus_serve_28 : decode b_Bus_serve 28 = .ok (.iload_n 1, 1) := by decide +kernel
theorem d_Bus_serve_29 : decode b_Bus_serve 29 = .ok (.aload_n 2, 1) := by decide +kernel
theorem d_Bus_serve_30 : decode b_Bus_serve 30 = .ok (.getfield 119, 3) := by decide +kernel
theorem d_Bus_serve_33 : decode b_Bus_serve 33 = .ok (.invokestatic 69, 3) := by decide +kernel
theorem d_Bus_serve_36 : decode b_Bus_serve 36 = .ok (.invokevirtual 141, 3) := by decide +kernel
theorem d_Bus_serve_39 : decode b_Bus_serve 39 = .ok (.aload_n 2, 1) := by decide +kernel
theorem d_Bus_serve_40 : decode b_Bus_serve 40 = .ok (.aload_n 2, 1) := by decide +kernel
theorem d_Bus_serve_41 : decode b_Bus_serve 41 = .ok (.getfield 116, 3) := by decide +kernel
theorem d_Bus_serve_44 : decode b_Bus_serve 44 = .ok (.aload_n 2, 1) := by decide +kernel
theorem d_Bus_serve_45 : decode b_Bus_serve 45 = .ok (.getfield 119, 3) := by decide +kernel
theorem d_Bus_serve_48 : decode b_Bus_serve 48 = .ok (.aload_n 2, 1) := by decide +kernel
theorem d_Bus_serve_49 : decode b_Bus_serve 49 = .ok (.getfield 144, 3) := by decide +kernel
theorem d_Bus_serve_52 : decode b_Bus_serve 52 = .ok (.invokevirtual 147, 3) := by decide +kernel
theorem d_Bus_serve_55 : decode b_Bus_serve 55 = .ok (.aload_n 2, 1) := by decide +kernel
theorem d_Bus_serve_56 : decode b_Bus_serve 56 = .ok (.iconst 0, 1) := by decide +kernel
theorem d_Bus_serve_57 : decode b_Bus_serve 57 = .ok (.putfield 116, 3) := by decide +kernel
theorem d_Bus_serve_60 : decode b_Bus_serve 60 = .ok (.aload_n 0, 1) := by decide +kernel
theorem d_Bus_serve_61 : decode b_Bus_serve 61 = .ok (.dup, 1) := by decide +kernel
theorem d_Bus_serve_62 : decode b_Bus_serve 62 = .ok (.getfield 123, 3) := by decide +kernel
theorem d_Bus_serve_65 : decode b_Bus_serve 65 = .ok (.iconst 1, 1) := by decide +kernel
theorem d_Bus_serve_66 : decode b_Bus_serve 66 = .ok (.iadd, 1) := by decide +kernel
theorem d_Bus_serve_67 : decode b_Bus_serve 67 = .ok (.putfield 123, 3) := by decide +kernel
theorem d_Bus_serve_70 : decode b_Bus_serve 70 = .ok (.aload_n 0, 1) := by decide +kernel
theorem d_Bus_serve_71 : decode b_Bus_serve 71 = .ok (.iload_n 1, 1) := by decide +kernel
theorem d_Bus_serve_72 : decode b_Bus_serve 72 = .ok (.putfield 39, 3) := by decide +kernel
theorem d_Bus_serve_75 : decode b_Bus_serve 75 = .ok (.return_, 1) := by decide +kernel
theorem d_Bus_serveRead_0 : decode b_Bus_serveRead 0 = .ok (.iload_n 2, 1) := by decide +kernel
theorem d_Bus_serveRead_1 : decode b_Bus_serveRead 1 = .ok (.invokestatic 69, 3) := by decide +kernel
theorem d_Bus_serveRead_4 : decode b_Bus_serveRead 4 = .ok (.istore_n 3, 1) := by decide +kernel
theorem d_Bus_serveRead_5 : decode b_Bus_serveRead 5 = .ok (.aload_n 0, 1) := by decide +kernel
theorem d_Bus_serveRead_6 : decode b_Bus_serveRead 6 = .ok (.iload_n 1, 1) := by decide +kernel
theorem d_Bus_serveRead_7 : decode b_Bus_serveRead 7 = .ok (.iload_n 3, 1) := by decide +kernel
theorem d_Bus_serveRead_8 : decode b_Bus_serveRead 8 = .ok (.invokevirtual 150, 3) := by decide +kernel
theorem d_Bus_serveRead_11 : decode b_Bus_serveRead 11 = .ok (.istore 4, 2) := by decide +kernel
theorem d_Bus_serveRead_13 : decode b_Bus_serveRead 13 = .ok (.aload_n 0, 1) := by decide +kernel
theorem d_Bus_serveRead_14 : decode b_Bus_serveRead 14 = .ok (.getfield 27, 3) := by decide +kernel
theorem d_Bus_serveRead_17 : decode b_Bus_serveRead 17 = .ok (.iload_n 1, 1) := by decide +kernel
theorem d_Bus_serveRead_18 : decode b_Bus_serveRead 18 = .ok (.aaload, 1) := by decide +kernel
theorem d_Bus_serveRead_19 : decode b_Bus_serveRead 19 = .ok (.astore 5, 2) := by decide +kernel
theorem d_Bus_serveRead_21 : decode b_Bus_serveRead 21 = .ok (.aload 5, 2) := by decide +kernel
theorem d_Bus_serveRead_23 : decode b_Bus_serveRead 23 = .ok (.getfield 65, 3) := by decide +kernel
theorem d_Bus_serveRead_26 : decode b_Bus_serveRead 26 = .ok (.iload_n 3, 1) := by decide +kernel
theorem d_Bus_serveRead_27 : decode b_Bus_serveRead 27 = .ok (.iload 4, 2) := by decide +kernel
theorem d_Bus_serveRead_29 : decode b_Bus_serveRead 29 = .ok (.ifCond .eq 7, 3) := by decide +kernel
theorem d_Bus_serveRead_32 : decode b_Bus_serveRead 32 = .ok (.iconst 1, 1) := by decide +kernel
theorem d_Bus_serveRead_33 : decode b_Bus_serveRead 33 = .ok (.goto 4, 3) := by decide +kernel
theorem d_Bus_serveRead_36 : decode b_Bus_serveRead 36 = .ok (.iconst 2, 1) := by decide +kernel
theorem d_Bus_serveRead_37 : decode b_Bus_serveRead 37 = .ok (.invokevirtual 154, 3) := by decide +kernel
theorem d_Bus_serveRead_40 : decode b_Bus_serveRead 40 = .ok (.aload 5, 2) := by decide +kernel
theorem d_Bus_serveRead_42 : decode b_Bus_serveRead 42 = .ok (.aload 5, 2) := by decide +kernel
theorem d_Bus_serveRead_44 : decode b_Bus_serveRead 44 = .ok (.getfield 65, 3) := by decide +kernel
theorem d_Bus_serveRead_47 : decode b_Bus_serveRead 47 = .ok (.getfield 75, 3) := by decide +kernel
theorem d_Bus_serveRead_50 : decode b_Bus_serveRead 50 = .ok (.iload_n 2, 1) := by decide +kernel
theorem d_Bus_serveRead_51 : decode b_Bus_serveRead 51 = .ok (.iaload, 1) := by decide +kernel
theorem d_Bus_serveRead_52 : decode b_Bus_serveRead 52 = .ok (.putfield 62, 3) := by decide +kernel
theorem d_Bus_serveRead_55 : decode b_Bus_serveRead 55 = .ok (.return_, 1) := by decide +kernel
theorem d_Bus_shareElsewhere_0 : decode b_Bus_shareElsewhere 0 = .ok (.iconst 0, 1) := by decide +kernel
theorem d_Bus_shareElsewhere_1 : decode b_Bus_shareElsewhere 1 = .ok (.istore_n 3, 1) := by decide +kernel
theorem d_Bus_shareElsewhere_2 : decode b_Bus_shareElsewhere 2 = .ok (.iconst 0, 1) := by decide +kernel
theorem d_Bus_shareElsewhere_3 : decode b_Bus_shareElsewhere 3 = .ok (.istore 4, 2) := by decide +kernel
theorem d_Bus_shareElsewhere_5 : decode b_Bus_shareElsewhere 5 = .ok (.iload 4, 2) := by decide +kernel
theorem d_Bus_shareElsewhere_7 : decode b_Bus_shareElsewhere 7 = .ok (.aload_n 0, 1) := by decide +kernel
theorem d_Bus_shareElsewhere_8 : decode b_Bus_shareElsewhere 8 = .ok (.getfield 27, 3) := by decide +kernel
theorem d_Bus_shareElsewhere_11 : decode b_Bus_shareElsewhere 11 = .ok (.arraylength, 1) := by decide +kernel
theorem d_Bus_shareElsewhere_12 : decode b_Bus_shareElsewhere 12 = .ok (.if_icmp .ge 48, 3) := by decide +kernel
theorem d_Bus_shareElsewhere_15 : decode b_Bus_shareElsewhere 15 = .ok (.iload 4, 2) := by decide +kernel
theorem d_Bus_shareElsewhere_17 : decode b_Bus_shareElsewhere 17 = .ok (.iload_n 1, 1) := by decide +kernel
theorem d_Bus_shareElsewhere_18 : decode b_Bus_shareElsewhere 18 = .ok (.if_icmp .eq 36, 3) := by decide +kernel
theorem d_Bus_shareElsewhere_21 : decode b_Bus_shareElsewhere 21 = .ok (.aload_n 0, 1) := by decide +kernel
theorem d_Bus_shareElsewhere_22 : decode b_Bus_shareElsewhere 22 = .ok (.getfield 27, 3) := by decide +kernel
theorem d_Bus_shareElsewhere_25 : decode b_Bus_shareElsewhere 25 = .ok (.iload 4, 2) := by decide +kernel
theorem d_Bus_shareElsewhere_27 : decode b_Bus_shareElsewhere 27 = .ok (.aaload, 1) := by decide +kernel
theorem d_Bus_shareElsewhere_28 : decode b_Bus_shareElsewhere 28 = .ok (.getfield 65, 3) := by decide +kernel
theorem d_Bus_shareElsewhere_31 : decode b_Bus_shareElsewhere 31 = .ok (.iload_n 2, 1) := by decide +kernel
theorem d_Bus_shareElsewhere_32 : decode b_Bus_shareElsewhere 32 = .ok (.invokevirtual 72, 3) := by decide +kernel
theorem d_Bus_shareElsewhere_35 : decode b_Bus_shareElsewhere 35 = .ok (.ifCond .eq 19, 3) := by decide +kernel
theorem d_Bus_shareElsewhere_38 : decode b_Bus_shareElsewhere 38 = .ok (.aload_n 0, 1) := by decide +kernel
theorem d_Bus_shareElsewhere_39 : decode b_Bus_shareElsewhere 39 = .ok (.getfield 27, 3) := by decide +kernel
theorem d_Bus_shareElsewhere_42 : decode b_Bus_shareElsewhere 42 = .ok (.iload 4, 2) := by decide +kernel
theorem d_Bus_shareElsewhere_44 : decode b_Bus_shareElsewhere 44 = .ok (.aaload, 1) := by decide +kernel
theorem d_Bus_shareElsewhere_45 : decode b_Bus_shareElsewhere 45 = .ok (.getfield 65, 3) := by decide +kernel
theorem d_Bus_shareElsewhere_48 : decode b_Bus_shareElsewhere 48 = .ok (.iload_n 2, 1) := by decide +kernel
theorem d_Bus_shareElsewhere_49 : decode b_Bus_shareElsewhere 49 = .ok (.invokevirtual 157, 3) := by decide +kernel
theorem d_Bus_shareElsewhere_52 : decode b_Bus_shareElsewhere 52 = .ok (.iconst 1, 1) := by decide +kernel
theorem d_Bus_shareElsewhere_53 : decode b_Bus_shareElsewhere 53 = .ok (.istore_n 3, 1) := by decide +kernel
theorem d_Bus_shareElsewhere_54 : decode b_Bus_shareElsewhere 54 = .ok (.iinc 4 1, 3) := by decide +kernel
theorem d_Bus_shareElsewhere_57 : decode b_Bus_shareElsewhere 57 = .ok (.goto (-52), 3) := by decide +kernel
theorem d_Bus_shareElsewhere_60 : decode b_Bus_shareElsewhere 60 = .ok (.iload_n 3, 1) := by decide +kernel
theorem d_Bus_shareElsewhere_61 : decode b_Bus_shareElsewhere 61 = .ok (.ireturn, 1) := by decide +kernel
theorem d_Cache_share_0 : decode b_Cache_share 0 = .ok (.aload_n 0, 1) := by decide +kernel
theorem d_Cache_share_1 : decode b_Cache_share 1 = .ok (.iload_n 1, 1) := by decide +kernel
theorem d_Cache_share_2 : decode b_Cache_share 2 = .ok (.invokevirtual 59, 3) := by decide +kernel
theorem d_Cache_share_5 : decode b_Cache_share 5 = .ok (.aload_n 0, 1) := by decide +kernel
theorem d_Cache_share_6 : decode b_Cache_share 6 = .ok (.getfield 9, 3) := by decide +kernel
theorem d_Cache_share_9 : decode b_Cache_share 9 = .ok (.iload_n 1, 1) := by decide +kernel
theorem d_Cache_share_10 : decode b_Cache_share 10 = .ok (.iconst 1, 1) := by decide +kernel
theorem d_Cache_share_11 : decode b_Cache_share 11 = .ok (.iastore, 1) := by decide +kernel
theorem d_Cache_share_12 : decode b_Cache_share 12 = .ok (.return_, 1) := by decide +kernel
theorem d_Cache_writeBackIfModified_0 : decode b_Cache_writeBackIfModified 0 = .ok (.aload_n 0, 1) := by decide +kernel
theorem d_Cache_writeBackIfModified_1 : decode b_Cache_writeBackIfModified 1 = .ok (.getfield 9, 3) := by decide +kernel
theorem d_Cache_writeBackIfModified_4 : decode b_Cache_writeBackIfModified 4 = .ok (.iload_n 1, 1) := by decide +kernel
theorem d_Cache_writeBackIfModified_5 : decode b_Cache_writeBackIfModified 5 = .ok (.iaload, 1) := by decide +kernel
theorem d_Cache_writeBackIfModified_6 : decode b_Cache_writeBackIfModified 6 = .ok (.iconst 3, 1) := by decide +kernel
theorem d_Cache_writeBackIfModified_7 : decode b_Cache_writeBackIfModified 7 = .ok (.if_icmp .ne 37, 3) := by decide +kernel
theorem d_Cache_writeBackIfModified_10 : decode b_Cache_writeBackIfModified 10 = .ok (.iload_n 1, 1) := by decide +kernel
theorem d_Cache_writeBackIfModified_11 : decode b_Cache_writeBackIfModified 11 = .ok (.iconst 4, 1) := by decide +kernel
theorem d_Cache_writeBackIfModified_12 : decode b_Cache_writeBackIfModified 12 = .ok (.imul, 1) := by decide +kernel
theorem d_Cache_writeBackIfModified_13 : decode b_Cache_writeBackIfModified 13 = .ok (.istore_n 2, 1) := by decide +kernel
theorem d_Cache_writeBackIfModified_14 : decode b_Cache_writeBackIfModified 14 = .ok (.aload_n 0, 1) := by decide +kernel
theorem d_Cache_writeBackIfModified_15 : decode b_Cache_writeBackIfModified 15 = .ok (.getfield 18, 3) := by decide +kernel
theorem d_Cache_writeBackIfModified_18 : decode b_Cache_writeBackIfModified 18 = .ok (.iload_n 2, 1) := by decide +kernel
theorem d_Cache_writeBackIfModified_19 : decode b_Cache_writeBackIfModified 19 = .ok (.aload_n 0, 1) := by decide +kernel
theorem d_Cache_writeBackIfModified_20 : decode b_Cache_writeBackIfModified 20 = .ok (.getfield 21, 3) := by decide +kernel
theorem d_Cache_writeBackIfModified_23 : decode b_Cache_writeBackIfModified 23 = .ok (.getfield 46, 3) := by decide +kernel
theorem d_Cache_writeBackIfModified_26 : decode b_Cache_writeBackIfModified 26 = .ok (.iload_n 2, 1) := by decide +kernel
theorem d_Cache_writeBackIfModified_27 : decode b_Cache_writeBackIfModified 27 = .ok (.iconst 4, 1) := by decide +kernel
theorem d_Cache_writeBackIfModified_28 : decode b_Cache_writeBackIfModified 28 = .ok (.invokestatic 49, 3) := by decide +kernel
theorem d_Cache_writeBackIfModified_31 : decode b_Cache_writeBackIfModified 31 = .ok (.aload_n 0, 1) := by decide +kernel
theorem d_Cache_writeBackIfModified_32 : decode b_Cache_writeBackIfModified 32 = .ok (.getfield 21, 3) := by decide +kernel
theorem d_Cache_writeBackIfModified_35 : decode b_Cache_writeBackIfModified 35 = .ok (.dup, 1) := by decide +kernel
theorem d_Cache_writeBackIfModified_36 : decode b_Cache_writeBackIfModified 36 = .ok (.getfield 62, 3) := by decide +kernel
theorem d_Cache_writeBackIfModified_39 : decode b_Cache_writeBackIfModified 39 = .ok (.iconst 1, 1) := by decide +kernel
theorem d_Cache_writeBackIfModified_40 : decode b_Cache_writeBackIfModified 40 = .ok (.iadd, 1) := by decide +kernel
theorem d_Cache_writeBackIfModified_41 : decode b_Cache_writeBackIfModified 41 = .ok (.putfield 62, 3) := by decide +kernel
theorem d_Cache_writeBackIfModified_44 : decode b_Cache_writeBackIfModified 44 = .ok (.return_, 1) := by decide +kernel
theorem d_Cache_fill_0 : decode b_Cache_fill 0 = .ok (.aload_n 0, 1) := by decide +kernel
theorem d_Cache_fill_1 : decode b_Cache_fill 1 = .ok (.iload_n 1, 1) := by decide +kernel
theorem d_Cache_fill_2 : decode b_Cache_fill 2 = .ok (.iconst 2, 1) := by decide +kernel
theorem d_Cache_fill_3 : decode b_Cache_fill 3 = .ok (.irem, 1) := by decide +kernel
theorem d_Cache_fill_4 : decode b_Cache_fill 4 = .ok (.invokevirtual 40, 3) := by decide +kernel
theorem d_Cache_fill_7 : decode b_Cache_fill 7 = .ok (.istore_n 3, 1) := by decide +kernel
theorem d_Cache_fill_8 : decode b_Cache_fill 8 = .ok (.iload_n 3, 1) := by decide +kernel
theorem d_Cache_fill_9 : decode b_Cache_fill 9 = .ok (.iconst (-1), 1) := by decide +kernel
theorem d_Cache_fill_10 : decode b_Cache_fill 10 = .ok (.if_icmp .eq 8, 3) := by decide +kernel
theorem d_Cache_fill_13 : decode b_Cache_fill 13 = .ok (.aload_n 0, 1) := by decide +kernel
theorem d_Cache_fill_14 : decode b_Cache_fill 14 = .ok (.iload_n 3, 1) := by decide +kernel
theorem d_Cache_fill_15 : decode b_Cache_fill 15 = .ok (.invokevirtual 43, 3) := by decide +kernel
theorem d_Cache_fill_18 : decode b_Cache_fill 18 = .ok (.iload_n 1, 1) := by decide +kernel
theorem d_Cache_fill_19 : decode b_Cache_fill 19 = .ok (.iconst 4, 1) := by decide +kernel
theorem d_Cache_fill_20 : decode b_Cache_fill 20 = .ok (.imul, 1) := by decide +kernel
theorem d_Cache_fill_21 : decode b_Cache_fill 21 = .ok (.istore 4, 2) := by decide +kernel
theorem d_Cache_fill_23 : decode b_Cache_fill 23 = .ok (.aload_n 0, 1) := by decide +kernel
theorem d_Cache_fill_24 : decode b_Cache_fill 24 = .ok (.getfield 21, 3) := by decide +kernel
theorem d_Cache_fill_27 : decode b_Cache_fill 27 = .ok (.getfield 46, 3) := by decide +kernel
theorem d_Cache_fill_30 : decode b_Cache_fill 30 = .ok (.iload 4, 2) := by decide +kernel
theorem d_Cache_fill_32 : decode b_Cache_fill 32 = .ok (.aload_n 0, 1) := by decide +kernel
theorem d_Cache_fill_33 : decode b_Cache_fill 33 = .ok (.getfield 18, 3) := by decide +kernel
theorem d_Cache_fill_36 : decode b_Cache_fill 36 = .ok (.iload 4, 2) := by decide +kernel
theorem d_Cache_fill_38 : decode b_Cache_fill 38 = .ok (.iconst 4, 1) := by decide +kernel
theorem d_Cache_fill_39 : decode b_Cache_fill 39 = .ok (.invokestatic 49, 3) := by decide +kernel
theorem d_Cache_fill_42 : decode b_Cache_fill 42 = .ok (.aload_n 0, 1) := by decide +kernel
theorem d_Cache_fill_43 : decode b_Cache_fill 43 = .ok (.getfield 9, 3) := by decide +kernel
theorem d_Cache_fill_46 : decode b_Cache_fill 46 = .ok (.iload_n 1, 1) := by decide +kernel
theorem d_Cache_fill_47 : decode b_Cache_fill 47 = .ok (.iload_n 2, 1) := by decide +kernel
theorem d_Cache_fill_48 : decode b_Cache_fill 48 = .ok (.iastore, 1) := by decide +kernel
theorem d_Cache_fill_49 : decode b_Cache_fill 49 = .ok (.aload_n 0, 1) := by decide +kernel
theorem d_Cache_fill_50 : decode b_Cache_fill 50 = .ok (.iload_n 1, 1) := by decide +kernel
theorem d_Cache_fill_51 : decode b_Cache_fill 51 = .ok (.invokevirtual 36, 3) := by decide +kernel
theorem d_Cache_fill_54 : decode b_Cache_fill 54 = .ok (.return_, 1) := by decide +kernel
theorem d_Cache_lineToLeave_0 : decode b_Cache_lineToLeave 0 = .ok (.iconst 0, 1) := by decide +kernel
theorem d_Cache_lineToLeave_1 : decode b_Cache_lineToLeave 1 = .ok (.istore_n 2, 1) := by decide +kernel
theorem d_Cache_lineToLeave_2 : decode b_Cache_lineToLeave 2 = .ok (.iconst (-1), 1) := by decide +kernel
theorem d_Cache_lineToLeave_3 : decode b_Cache_lineToLeave 3 = .ok (.istore_n 3, 1) := by decide +kernel
theorem d_Cache_lineToLeave_4 : decode b_Cache_lineToLeave 4 = .ok (.iload_n 1, 1) := by decide +kernel
theorem d_Cache_lineToLeave_5 : decode b_Cache_lineToLeave 5 = .ok (.istore 4, 2) := by decide +kernel
theorem d_Cache_lineToLeave_7 : decode b_Cache_lineToLeave 7 = .ok (.iload 4, 2) := by decide +kernel
theorem d_Cache_lineToLeave_9 : decode b_Cache_lineToLeave 9 = .ok (.bipush 8, 2) := by decide +kernel
theorem d_Cache_lineToLeave_11 : decode b_Cache_lineToLeave 11 = .ok (.if_icmp .ge 45, 3) := by decide +kernel
theorem d_Cache_lineToLeave_14 : decode b_Cache_lineToLeave 14 = .ok (.aload_n 0, 1) := by decide +kernel
theorem d_Cache_lineToLeave_15 : decode b_Cache_lineToLeave 15 = .ok (.iload 4, 2) := by decide +kernel
theorem d_Cache_lineToLeave_17 : decode b_Cache_lineToLeave 17 = .ok (.invokevirtual 55, 3) := by decide +kernel
theorem d_Cache_lineToLeave_20 : decode b_Cache_lineToLeave 20 = .ok (.ifCond .eq 30, 3) := by decide +kernel
theorem d_Cache_lineToLeave_23 : decode b_Cache_lineToLeave 23 = .ok (.iinc 2 1, 3) := by decide +kernel
theorem d_Cache_lineToLeave_26 : decode b_Cache_lineToLeave 26 = .ok (.iload_n 3, 1) := by decide +kernel
theorem d_Cache_lineToLeave_27 : decode b_Cache_lineToLeave 27 = .ok (.iconst (-1), 1) := by decide +kernel
theorem d_Cache_lineToLeave_28 : decode b_Cache_lineToLeave 28 = .ok (.if_icmp .eq 19, 3) := by decide +kernel
theorem d_Cache_lineToLeave_31 : decode b_Cache_lineToLeave 31 = .ok (.aload_n 0, 1) := by decide +kernel
theorem d_Cache_lineToLeave_32 : decode b_Cache_lineToLeave 32 = .ok (.getfield 15, 3) := by decide +kernel
theorem d_Cache_lineToLeave_35 : decode b_Cache_lineToLeave 35 = .ok (.iload 4, 2) := by decide +kernel
theorem d_Cache_lineToLeave_37 : decode b_Cache_lineToLeave 37 = .ok (.iaload, 1) := by decide +kernel
theorem d_Cache_lineToLeave_38 : decode b_Cache_lineToLeave 38 = .ok (.aload_n 0, 1) := by decide +kernel
theorem d_Cache_lineToLeave_39 : decode b_Cache_lineToLeave 39 = .ok (.getfield 15, 3) := by decide +kernel
theorem d_Cache_lineToLeave_42 : decode b_Cache_lineToLeave 42 = .ok (.iload_n 3, 1) := by decide +kernel
theorem d_Cache_lineToLeave_43 : decode b_Cache_lineToLeave 43 = .ok (.iaload, 1) := by decide +kernel
theorem d_Cache_lineToLeave_44 : decode b_Cache_lineToLeave 44 = .ok (.if_icmp .ge 6, 3) := by decide +kernel
theorem d_Cache_lineToLeave_47 : decode b_Cache_lineToLeave 47 = .ok (.iload 4, 2) := by decide +kernel
theorem d_Cache_lineToLeave_49 : decode b_Cache_lineToLeave 49 = .ok (.istore_n 3, 1) := by decide +kernel
theorem d_Cache_lineToLeave_50 : decode b_Cache_lineToLeave 50 = .ok (.iinc 4 2, 3) := by decide +kernel
theorem d_Cache_lineToLeave_53 : decode b_Cache_lineToLeave 53 = .ok (.goto (-46), 3) := by decide +kernel
theorem d_Cache_lineToLeave_56 : decode b_Cache_lineToLeave 56 = .ok (.iload_n 2, 1) := by decide +kernel
theorem d_Cache_lineToLeave_57 : decode b_Cache_lineToLeave 57 = .ok (.aload_n 0, 1) := by decide +kernel
theorem d_Cache_lineToLeave_58 : decode b_Cache_lineToLeave 58 = .ok (.getfield 25, 3) := by decide +kernel
theorem d_Cache_lineToLeave_61 : decode b_Cache_lineToLeave 61 = .ok (.if_icmp .ge 7, 3) := by decide +kernel
theorem d_Cache_lineToLeave_64 : decode b_Cache_lineToLeave 64 = .ok (.iconst (-1), 1) := by decide +kernel
theorem d_Cache_lineToLeave_65 : decode b_Cache_lineToLeave 65 = .ok (.goto 4, 3) := by decide +kernel
theorem d_Cache_lineToLeave_68 : decode b_Cache_lineToLeave 68 = .ok (.iload_n 3, 1) := by decide +kernel
theorem d_Cache_lineToLeave_69 : decode b_Cache_lineToLeave 69 = .ok (.ireturn, 1) := by decide +kernel
theorem d_Cache_drop_0 : decode b_Cache_drop 0 = .ok (.aload_n 0, 1) := by decide +kernel
theorem d_Cache_drop_1 : decode b_Cache_drop 1 = .ok (.iload_n 1, 1) := by decide +kernel
theorem d_Cache_drop_2 : decode b_Cache_drop 2 = .ok (.invokevirtual 59, 3) := by decide +kernel
theorem d_Cache_drop_5 : decode b_Cache_drop 5 = .ok (.aload_n 0, 1) := by decide +kernel
theorem d_Cache_drop_6 : decode b_Cache_drop 6 = .ok (.getfield 9, 3) := by decide +kernel
theorem d_Cache_drop_9 : decode b_Cache_drop 9 = .ok (.iload_n 1, 1) := by decide +kernel
theorem d_Cache_drop_10 : decode b_Cache_drop 10 = .ok (.iconst 0, 1) := by decide +kernel
theorem d_Cache_drop_11 : decode b_Cache_drop 11 = .ok (.iastore, 1) := by decide +kernel
theorem d_Cache_drop_12 : decode b_Cache_drop 12 = .ok (.return_, 1) := by decide +kernel
theorem d_Bus_takeLine_0 : decode b_Bus_takeLine 0 = .ok (.aload_n 0, 1) := by decide +kernel
theorem d_Bus_takeLine_1 : decode b_Bus_takeLine 1 = .ok (.iload_n 1, 1) := by decide +kernel
theorem d_Bus_takeLine_2 : decode b_Bus_takeLine 2 = .ok (.iload_n 2, 1) := by decide +kernel
theorem d_Bus_takeLine_3 : decode b_Bus_takeLine 3 = .ok (.invokevirtual 160, 3) := by decide +kernel
theorem d_Bus_takeLine_6 : decode b_Bus_takeLine 6 = .ok (.aload_n 0, 1) := by decide +kernel
theorem d_Bus_takeLine_7 : decode b_Bus_takeLine 7 = .ok (.getfield 27, 3) := by decide +kernel
theorem d_Bus_takeLine_10 : decode b_Bus_takeLine 10 = .ok (.iload_n 1, 1) := by decide +kernel
theorem d_Bus_takeLine_11 : decode b_Bus_takeLine 11 = .ok (.aaload, 1) := by decide +kernel
theorem d_Bus_takeLine_12 : decode b_Bus_takeLine 12 = .ok (.getfield 65, 3) := by decide +kernel
theorem d_Bus_takeLine_15 : decode b_Bus_takeLine 15 = .ok (.astore_n 3, 1) := by decide +kernel
theorem d_Bus_takeLine_16 : decode b_Bus_takeLine 16 = .ok (.aload_n 3, 1) := by decide +kernel
theorem d_Bus_takeLine_17 : decode b_Bus_takeLine 17 = .ok (.iload_n 2, 1) := by decide +kernel
theorem d_Bus_takeLine_18 : decode b_Bus_takeLine 18 = .ok (.invokevirtual 72, 3) := by decide +kernel
theorem d_Bus_takeLine_21 : decode b_Bus_takeLine 21 = .ok (.ifCond .eq 28, 3) := by decide +kernel
theorem d_Bus_takeLine_24 : decode b_Bus_takeLine 24 = .ok (.aload_n 3, 1) := by decide +kernel
theorem d_Bus_takeLine_25 : decode b_Bus_takeLine 25 = .ok (.getfield 110, 3) := by decide +kernel
theorem d_Bus_takeLine_28 : decode b_Bus_takeLine 28 = .ok (.iload_n 2, 1) := by decide +kernel
theorem d_Bus_takeLine_29 : decode b_Bus_takeLine 29 = .ok (.iconst 3, 1) := by decide +kernel
theorem d_Bus_takeLine_30 : decode b_Bus_takeLine 30 = .ok (.iastore, 1) := by decide +kernel
theorem d_Bus_takeLine_31 : decode b_Bus_takeLine 31 = .ok (.aload_n 3, 1) := by decide +kernel
theorem d_Bus_takeLine_32 : decode b_Bus_takeLine 32 = .ok (.iload_n 2, 1) := by decide +kernel
theorem d_Bus_takeLine_33 : decode b_Bus_takeLine 33 = .ok (.invokevirtual 78, 3) := by decide +kernel
theorem d_Bus_takeLine_36 : decode b_Bus_takeLine 36 = .ok (.aload_n 0, 1) := by decide +kernel
theorem d_Bus_takeLine_37 : decode b_Bus_takeLine 37 = .ok (.dup, 1) := by decide +kernel
theorem d_Bus_takeLine_38 : decode b_Bus_takeLine 38 = .ok (.getfield 132, 3) := by decide +kernel
theorem d_Bus_takeLine_41 : decode b_Bus_takeLine 41 = .ok (.iconst 1, 1) := by decide +kernel
theorem d_Bus_takeLine_42 : decode b_Bus_takeLine 42 = .ok (.iadd, 1) := by decide +kernel
theorem d_Bus_takeLine_43 : decode b_Bus_takeLine 43 = .ok (.putfield 132, 3) := by decide +kernel
theorem d_Bus_takeLine_46 : decode b_Bus_takeLine 46 = .ok (.goto 9, 3) := by decide +kernel
theorem d_Bus_takeLine_49 : decode b_Bus_takeLine 49 = .ok (.aload_n 3, 1) := by decide +kernel
theorem d_Bus_takeLine_50 : decode b_Bus_takeLine 50 = .ok (.iload_n 2, 1) := by decide +kernel
theorem d_Bus_takeLine_51 : decode b_Bus_takeLine 51 = .ok (.iconst 3, 1) := by decide +kernel
theorem d_Bus_takeLine_52 : decode b_Bus_takeLine 52 = .ok (.invokevirtual 154, 3) := by decide +kernel
theorem d_Bus_takeLine_55 : decode b_Bus_takeLine 55 = .ok (.return_, 1) := by decide +kernel
theorem d_Bus_invalidateElsewhere_0 : decode b_Bus_invalidateElsewhere 0 = .ok (.iconst 0, 1) := by decide +kernel
theorem d_Bus_invalidateElsewhere_1 : decode b_Bus_invalidateElsewhere 1 = .ok (.istore_n 3, 1) := by decide +kernel
theorem d_Bus_invalidateElsewhere_2 : decode b_Bus_invalidateElsewhere 2 = .ok (.iload_n 3, 1) := by decide +kernel
theorem d_Bus_invalidateElsewhere_3 : decode b_Bus_invalidateElsewhere 3 = .ok (.aload_n 0, 1) := by decide +kernel
theorem d_Bus_invalidateElsewhere_4 : decode b_Bus_invalidateElsewhere 4 = .ok (.getfield 27, 3) := by decide +kernel
theorem d_Bus_invalidateElsewhere_7 : decode b_Bus_invalidateElsewhere 7 = .ok (.arraylength, 1) := by decide +kernel
theorem d_Bus_invalidateElsewhere_8 : decode b_Bus_invalidateElsewhere 8 = .ok (.if_icmp .ge 53, 3) := by decide +kernel
theorem d_Bus_invalidateElsewhere_11 : decode b_Bus_invalidateElsewhere 11 = .ok (.iload_n 3, 1) := by decide +kernel
theorem d_Bus_invalidateElsewhere_12 : decode b_Bus_invalidateElsewhere 12 = .ok (.iload_n 1, 1) := by decide +kernel
theorem d_Bus_invalidateElsewhere_13 : decode b_Bus_invalidateElsewhere 13 = .ok (.if_icmp .eq 42, 3) := by decide +kernel
theorem d_Bus_invalidateElsewhere_16 : decode b_Bus_invalidateElsewhere 16 = .ok (.aload_n 0, 1) := by decide +kernel
theorem d_Bus_invalidateElsewhere_17 : decode b_Bus_invalidateElsewhere 17 = .ok (.getfield 27, 3) := by decide +kernel
theorem d_Bus_invalidateElsewhere_20 : decode b_Bus_invalidateElsewhere 20 = .ok (.iload_n 3, 1) := by decide +kernel
theorem d_Bus_invalidateElsewhere_21 : decode b_Bus_invalidateElsewhere 21 = .ok (.aaload, 1) := by decide +kernel
theorem d_Bus_invalidateElsewhere_22 : decode b_Bus_invalidateElsewhere 22 = .ok (.getfield 65, 3) := by decide +kernel
theorem d_Bus_invalidateElsewhere_25 : decode b_Bus_invalidateElsewhere 25 = .ok (.iload_n 2, 1) := by decide +kernel
theorem d_Bus_invalidateElsewhere_26 : decode b_Bus_invalidateElsewhere 26 = .ok (.invokevirtual 72, 3) := by decide +kernel
theorem d_Bus_invalidateElsewhere_29 : decode b_Bus_invalidateElsewhere 29 = .ok (.ifCond .eq 26, 3) := by decide +kernel
theorem d_Bus_invalidateElsewhere_32 : decode b_Bus_invalidateElsewhere 32 = .ok (.aload_n 0, 1) := by decide +kernel
theorem d_Bus_invalidateElsewhere_33 : decode b_Bus_invalidateElsewhere 33 = .ok (.getfield 27, 3) := by decide +kernel
theorem d_Bus_invalidateElsewhere_36 : decode b_Bus_invalidateElsewhere 36 = .ok (.iload_n 3, 1) := by decide +kernel
theorem d_Bus_invalidateElsewhere_37 : decode b_Bus_invalidateElsewhere 37 = .ok (.aaload, 1) := by decide +kernel
theorem d_Bus_invalidateElsewhere_38 : decode b_Bus_invalidateElsewhere 38 = .ok (.getfield 65, 3) := by decide +kernel
theorem d_Bus_invalidateElsewhere_41 : decode b_Bus_invalidateElsewhere 41 = .ok (.iload_n 2, 1) := by decide +kernel
theorem d_Bus_invalidateElsewhere_42 : decode b_Bus_invalidateElsewhere 42 = .ok (.invokevirtual 113, 3) := by decide +kernel
theorem d_Bus_invalidateElsewhere_45 : decode b_Bus_invalidateElsewhere 45 = .ok (.aload_n 0, 1) := by decide +kernel
theorem d_Bus_invalidateElsewhere_46 : decode b_Bus_invalidateElsewhere 46 = .ok (.dup, 1) := by decide +kernel
theorem d_Bus_invalidateElsewhere_47 : decode b_Bus_invalidateElsewhere 47 = .ok (.getfield 129, 3) := by decide +kernel
theorem d_Bus_invalidateElsewhere_50 : decode b_Bus_invalidateElsewhere 50 = .ok (.iconst 1, 1) := by decide +kernel
theorem d_Bus_invalidateElsewhere_51 : decode b_Bus_invalidateElsewhere 51 = .ok (.iadd, 1) := by decide +kernel
theorem d_Bus_invalidateElsewhere_52 : decode b_Bus_invalidateElsewhere 52 = .ok (.putfield 129, 3) := by decide +kernel
theorem d_Bus_invalidateElsewhere_55 : decode b_Bus_invalidateElsewhere 55 = .ok (.iinc 3 1, 3) := by decide +kernel
theorem d_Bus_invalidateElsewhere_58 : decode b_Bus_invalidateElsewhere 58 = .ok (.goto (-56), 3) := by decide +kernel
theorem d_Bus_invalidateElsewhere_61 : decode b_Bus_invalidateElsewhere 61 = .ok (.return_, 1) := by decide +kernel
theorem d_Bus_evict_0 : decode b_Bus_evict 0 = .ok (.aload_n 0, 1) := by decide +kernel
theorem d_Bus_evict_1 : decode b_Bus_evict 1 = .ok (.iload_n 1, 1) := by decide +kernel
theorem d_Bus_evict_2 : decode b_Bus_evict 2 = .ok (.invokevirtual 43, 3) := by decide +kernel
theorem d_Bus_evict_5 : decode b_Bus_evict 5 = .ok (.ifCond .eq 10, 3) := by decide +kernel
theorem d_Bus_evict_8 : decode b_Bus_evict 8 = .ok (.iload_n 2, 1) := by decide +kernel
theorem d_Bus_evict_9 : decode b_Bus_evict 9 = .ok (.invokestatic 107, 3) := by decide +kernel
theorem d_Bus_evict_12 : decode b_Bus_evict 12 = .ok (.ifCond .ne 5, 3) := by decide +kernel
theorem d_Bus_evict_15 : decode b_Bus_evict 15 = .ok (.iconst (-1), 1) := by decide +kernel
theorem d_Bus_evict_16 : decode b_Bus_evict 16 = .ok (.ireturn, 1) := by decide +kernel
theorem d_Bus_evict_17 : decode b_Bus_evict 17 = .ok (.aload_n 0, 1) := by decide +kernel
theorem d_Bus_evict_18 : decode b_Bus_evict 18 = .ok (.getfield 27, 3) := by decide +kernel
theorem d_Bus_evict_21 : decode b_Bus_evict 21 = .ok (.iload_n 1, 1) := by decide +kernel
theorem d_Bus_evict_22 : decode b_Bus_evict 22 = .ok (.aaload, 1) := by decide +kernel
theorem d_Bus_evict_23 : decode b_Bus_evict 23 = .ok (.invokevirtual 50, 3) := by decide +kernel
theorem d_Bus_evict_26 : decode b_Bus_evict 26 = .ok (.ifCond .eq 6, 3) := by decide +kernel
theorem d_Bus_evict_29 : decode b_Bus_evict 29 = .ok (.bipush (-2), 2) := by decide +kernel
theorem d_Bus_evict_31 : decode b_Bus_evict 31 = .ok (.ireturn, 1) := by decide +kernel
theorem d_Bus_evict_32 : decode b_Bus_evict 32 = .ok (.aload_n 0, 1) := by decide +kernel
theorem d_Bus_evict_33 : decode b_Bus_evict 33 = .ok (.getfield 27, 3) := by decide +kernel
theorem d_Bus_evict_36 : decode b_Bus_evict 36 = .ok (.iload_n 1, 1) := by decide +kernel
theorem d_Bus_evict_37 : decode b_Bus_evict 37 = .ok (.aaload, 1) := by decide +kernel
theorem d_Bus_evict_38 : decode b_Bus_evict 38 = .ok (.getfield 65, 3) := by decide +kernel
theorem d_Bus_evict_41 : decode b_Bus_evict 41 = .ok (.astore_n 3, 1) := by decide +kernel
theorem d_Bus_evict_42 : decode b_Bus_evict 42 = .ok (.aload_n 3, 1) := by decide +kernel
theorem d_Bus_evict_43 : decode b_Bus_evict 43 = .ok (.getfield 110, 3) := by decide +kernel
theorem d_Bus_evict_46 : decode b_Bus_evict 46 = .ok (.iload_n 2, 1) := by decide +kernel
theorem d_Bus_evict_47 : decode b_Bus_evict 47 = .ok (.iaload, 1) := by decide +kernel
theorem d_Bus_evict_48 : decode b_Bus_evict 48 = .ok (.istore 4, 2) := by decide +kernel
theorem d_Bus_evict_50 : decode b_Bus_evict 50 = .ok (.aload_n 3, 1) := by decide +kernel
theorem d_Bus_evict_51 : decode b_Bus_evict 51 = .ok (.iload_n 2, 1) := by decide +kernel
theorem d_Bus_evict_52 : decode b_Bus_evict 52 = .ok (.invokevirtual 113, 3) := by decide +kernel
theorem d_Bus_evict_55 : decode b_Bus_evict 55 = .ok (.iload 4, 2) := by decide +kernel
theorem d_Bus_evict_57 : decode b_Bus_evict 57 = .ok (.ireturn, 1) := by decide +kernel
theorem d_Bus_isLine_0 : decode b_Bus_isLine 0 = .ok (.iload_n 0, 1) := by decide +kernel
theorem d_Bus_isLine_1 : decode b_Bus_isLine 1 = .ok (.ifCond .lt 13, 3) := by decide +kernel
theorem d_Bus_isLine_4 : decode b_Bus_isLine 4 = .ok (.iload_n 0, 1) := by decide +kernel
theorem d_Bus_isLine_5 : decode b_Bus_isLine 5 = .ok (.bipush 8, 2) := by decide +kernel
theorem d_Bus_isLine_7 : decode b_Bus_isLine 7 = .ok (.if_icmp .ge 7, 3) := by decide +kernel
theorem d_Bus_isLine_10 : decode b_Bus_isLine 10 = .ok (.iconst 1, 1) := by decide +kernel
theorem d_Bus_isLine_11 : decode b_Bus_isLine 11 = .ok (.goto 4, 3) := by decide +kernel
theorem d_Bus_isLine_14 : decode b_Bus_isLine 14 = .ok (.iconst 0, 1) := by decide +kernel
theorem d_Bus_isLine_15 : decode b_Bus_isLine 15 = .ok (.ireturn, 1) := by decide +kernel
theorem d_Bus_last_0 : decode b_Bus_last 0 = .ok (.aload_n 0, 1) := by decide +kernel
theorem d_Bus_last_1 : decode b_Bus_last 1 = .ok (.iload_n 1, 1) := by decide +kernel
theorem d_Bus_last_2 : decode b_Bus_last 2 = .ok (.invokevirtual 43, 3) := by decide +kernel
theorem d_Bus_last_5 : decode b_Bus_last 5 = .ok (.ifCond .eq 15, 3) := by decide +kernel
theorem d_Bus_last_8 : decode b_Bus_last 8 = .ok (.aload_n 0, 1) := by decide +kernel
theorem d_Bus_last_9 : decode b_Bus_last 9 = .ok (.getfield 27, 3) := by decide +kernel
theorem d_Bus_last_12 : decode b_Bus_last 12 = .ok (.iload_n 1, 1) := by decide +kernel
theorem d_Bus_last_13 : decode b_Bus_last 13 = .ok (.aaload, 1) := by decide +kernel
theorem d_Bus_last_14 : decode b_Bus_last 14 = .ok (.getfield 62, 3) := by decide +kernel
theorem d_Bus_last_17 : decode b_Bus_last 17 = .ok (.goto 4, 3) := by decide +kernel
theorem d_Bus_last_20 : decode b_Bus_last 20 = .ok (.iconst 0, 1) := by decide +kernel
theorem d_Bus_last_21 : decode b_Bus_last 21 = .ok (.ireturn, 1) := by decide +kernel
theorem d_Bus_request_0 : decode b_Bus_request 0 = .ok (.aload_n 0, 1) := by decide +kernel
theorem d_Bus_request_1 : decode b_Bus_request 1 = .ok (.iload_n 1, 1) := by decide +kernel
theorem d_Bus_request_2 : decode b_Bus_request 2 = .ok (.invokevirtual 43, 3) := by decide +kernel
theorem d_Bus_request_5 : decode b_Bus_request 5 = .ok (.ifCond .ne 5, 3) := by decide +kernel
theorem d_Bus_request_8 : decode b_Bus_request 8 = .ok (.iconst (-1), 1) := by decide +kernel
theorem d_Bus_request_9 : decode b_Bus_request 9 = .ok (.ireturn, 1) := by decide +kernel
theorem d_Bus_request_10 : decode b_Bus_request 10 = .ok (.aload_n 0, 1) := by decide +kernel
theorem d_Bus_request_11 : decode b_Bus_request 11 = .ok (.getfield 27, 3) := by decide +kernel
theorem d_Bus_request_14 : decode b_Bus_request 14 = .ok (.iload_n 1, 1) := by decide +kernel
theorem d_Bus_request_15 : decode b_Bus_request 15 = .ok (.aaload, 1) := by decide +kernel
theorem d_Bus_request_16 : decode b_Bus_request 16 = .ok (.astore_n 2, 1) := by decide +kernel
theorem d_Bus_request_17 : decode b_Bus_request 17 = .ok (.aload_n 2, 1) := by decide +kernel
theorem d_Bus_request_18 : decode b_Bus_request 18 = .ok (.invokevirtual 50, 3) := by decide +kernel
theorem d_Bus_request_21 : decode b_Bus_request 21 = .ok (.ifCond .eq 18, 3) := by decide +kernel
theorem d_Bus_request_24 : decode b_Bus_request 24 = .ok (.aload_n 2, 1) := by decide +kernel
theorem d_Bus_request_25 : decode b_Bus_request 25 = .ok (.getfield 116, 3) := by decide +kernel
theorem d_Bus_request_28 : decode b_Bus_request 28 = .ok (.bipush 8, 2) := by decide +kernel
theorem d_Bus_request_30 : decode b_Bus_request 30 = .ok (.aload_n 2, 1) := by decide +kernel
theorem d_Bus_request_31 : decode b_Bus_request 31 = .ok (.getfield 119, 3) := by decide +kernel
theorem d_Bus_request_34 : decode b_Bus_request 34 = .ok (.imul, 1) := by decide +kernel
theorem d_Bus_request_35 : decode b_Bus_request 35 = .ok (.iadd, 1) := by decide +kernel
theorem d_Bus_request_36 : decode b_Bus_request 36 = .ok (.goto 4, 3) := by decide +kernel
theorem d_Bus_request_39 : decode b_Bus_request 39 = .ok (.iconst 0, 1) := by decide +kernel
theorem d_Bus_request_40 : decode b_Bus_request 40 = .ok (.ireturn, 1) := by decide +kernel
theorem d_Bus_buffered_0 : decode b_Bus_buffered 0 = .ok (.aload_n 0, 1) := by decide +kernel
theorem d_Bus_buffered_1 : decode b_Bus_buffered 1 = .ok (.iload_n 1, 1) := by decide +kernel
theorem d_Bus_buffered_2 : decode b_Bus_buffered 2 = .ok (.invokevirtual 43, 3) := by decide +kernel
theorem d_Bus_buffered_5 : decode b_Bus_buffered 5 = .ok (.ifCond .eq 15, 3) := by decide +kernel
theorem d_Bus_buffered_8 : decode b_Bus_buffered 8 = .ok (.aload_n 0, 1) := by decide +kernel
theorem d_Bus_buffered_9 : decode b_Bus_buffered 9 = .ok (.getfield 27, 3) := by decide +kernel
theorem d_Bus_buffered_12 : decode b_Bus_buffered 12 = .ok (.iload_n 1, 1) := by decide +kernel
theorem d_Bus_buffered_13 : decode b_Bus_buffered 13 = .ok (.aaload, 1) := by decide +kernel
theorem d_Bus_buffered_14 : decode b_Bus_buffered 14 = .ok (.getfield 86, 3) := by decide +kernel
theorem d_Bus_buffered_17 : decode b_Bus_buffered 17 = .ok (.goto 4, 3) := by decide +kernel
theorem d_Bus_buffered_20 : decode b_Bus_buffered 20 = .ok (.iconst (-1), 1) := by decide +kernel
theorem d_Bus_buffered_21 : decode b_Bus_buffered 21 = .ok (.ireturn, 1) := by decide +kernel
theorem d_Bus_state_0 : decode b_Bus_state 0 = .ok (.aload_n 0, 1) := by decide +kernel
theorem d_Bus_state_1 : decode b_Bus_state 1 = .ok (.iload_n 1, 1) := by decide +kernel
theorem d_Bus_state_2 : decode b_Bus_state 2 = .ok (.invokevirtual 43, 3) := by decide +kernel
theorem d_Bus_state_5 : decode b_Bus_state 5 = .ok (.ifCond .eq 27, 3) := by decide +kernel
theorem d_Bus_state_8 : decode b_Bus_state 8 = .ok (.iload_n 2, 1) := by decide +kernel
theorem d_Bus_state_9 : decode b_Bus_state 9 = .ok (.invokestatic 107, 3) := by decide +kernel
theorem d_Bus_state_12 : decode b_Bus_state 12 = .ok (.ifCond .eq 20, 3) := by decide +kernel
theorem d_Bus_state_15 : decode b_Bus_state 15 = .ok (.aload_n 0, 1) := by decide +kernel
theorem d_Bus_state_16 : decode b_Bus_state 16 = .ok (.getfield 27, 3) := by decide +kernel
theorem d_Bus_state_19 : decode b_Bus_state 19 = .ok (.iload_n 1, 1) := by decide +kernel
theorem d_Bus_state_20 : decode b_Bus_state 20 = .ok (.aaload, 1) := by decide +kernel
theorem d_Bus_state_21 : decode b_Bus_state 21 = .ok (.getfield 65, 3) := by decide +kernel
theorem d_Bus_state_24 : decode b_Bus_state 24 = .ok (.getfield 110, 3) := by decide +kernel
theorem d_Bus_state_27 : decode b_Bus_state 27 = .ok (.iload_n 2, 1) := by decide +kernel
theorem d_Bus_state_28 : decode b_Bus_state 28 = .ok (.iaload, 1) := by decide +kernel
theorem d_Bus_state_29 : decode b_Bus_state 29 = .ok (.goto 4, 3) := by decide +kernel
theorem d_Bus_state_32 : decode b_Bus_state 32 = .ok (.iconst (-1), 1) := by decide +kernel
theorem d_Bus_state_33 : decode b_Bus_state 33 = .ok (.ireturn, 1) := by decide +kernel
theorem d_Bus_copy_0 : decode b_Bus_copy 0 = .ok (.aload_n 0, 1) := by decide +kernel
theorem d_Bus_copy_1 : decode b_Bus_copy 1 = .ok (.iload_n 1, 1) := by decide +kernel
theorem d_Bus_copy_2 : decode b_Bus_copy 2 = .ok (.invokevirtual 43, 3) := by decide +kernel
theorem d_Bus_copy_5 : decode b_Bus_copy 5 = .ok (.ifCond .eq 10, 3) := by decide +kernel
theorem d_Bus_copy_8 : decode b_Bus_copy 8 = .ok (.iload_n 2, 1) := by decide +kernel
theorem d_Bus_copy_9 : decode b_Bus_copy 9 = .ok (.invokestatic 47, 3) := by decide +kernel
theorem d_Bus_copy_12 : decode b_Bus_copy 12 = .ok (.ifCond .ne 5, 3) := by decide +kernel
theorem d_Bus_copy_15 : decode b_Bus_copy 15 = .ok (.iconst 0, 1) := by decide +kernel
theorem d_Bus_copy_16 : decode b_Bus_copy 16 = .ok (.ireturn, 1) := by decide +kernel
theorem d_Bus_copy_17 : decode b_Bus_copy 17 = .ok (.aload_n 0, 1) := by decide +kernel
theorem d_Bus_copy_18 : decode b_Bus_copy 18 = .ok (.getfield 27, 3) := by decide +kernel
theorem d_Bus_copy_21 : decode b_Bus_copy 21 = .ok (.iload_n 1, 1) := by decide +kernel
theorem d_Bus_copy_22 : decode b_Bus_copy 22 = .ok (.aaload, 1) := by decide +kernel
theorem d_Bus_copy_23 : decode b_Bus_copy 23 = .ok (.getfield 65, 3) := by decide +kernel
theorem d_Bus_copy_26 : decode b_Bus_copy 26 = .ok (.astore_n 3, 1) := by decide +kernel
theorem d_Bus_copy_27 : decode b_Bus_copy 27 = .ok (.aload_n 3, 1) := by decide +kernel
theorem d_Bus_copy_28 : decode b_Bus_copy 28 = .ok (.iload_n 2, 1) := by decide +kernel
theorem d_Bus_copy_29 : decode b_Bus_copy 29 = .ok (.invokestatic 69, 3) := by decide +kernel
theorem d_Bus_copy_32 : decode b_Bus_copy 32 = .ok (.invokevirtual 72, 3) := by decide +kernel
theorem d_Bus_copy_35 : decode b_Bus_copy 35 = .ok (.ifCond .eq 12, 3) := by decide +kernel
theorem d_Bus_copy_38 : decode b_Bus_copy 38 = .ok (.aload_n 3, 1) := by decide +kernel
theorem d_Bus_copy_39 : decode b_Bus_copy 39 = .ok (.getfield 75, 3) := by decide +kernel
theorem d_Bus_copy_42 : decode b_Bus_copy 42 = .ok (.iload_n 2, 1) := by decide +kernel
theorem d_Bus_copy_43 : decode b_Bus_copy 43 = .ok (.iaload, 1) := by decide +kernel
theorem d_Bus_copy_44 : decode b_Bus_copy 44 = .ok (.goto 4, 3) := by decide +kernel
theorem d_Bus_copy_47 : decode b_Bus_copy 47 = .ok (.iconst 0, 1) := by decide +kernel
theorem d_Bus_copy_48 : decode b_Bus_copy 48 = .ok (.ireturn, 1) := by decide +kernel
theorem d_Bus_memory_0 : decode b_Bus_memory 0 = .ok (.iload_n 1, 1) := by decide +kernel
theorem d_Bus_memory_1 : decode b_Bus_memory 1 = .ok (.invokestatic 47, 3) := by decide +kernel
theorem d_Bus_memory_4 : decode b_Bus_memory 4 = .ok (.ifCond .eq 15, 3) := by decide +kernel
theorem d_Bus_memory_7 : decode b_Bus_memory 7 = .ok (.aload_n 0, 1) := by decide +kernel
theorem d_Bus_memory_8 : decode b_Bus_memory 8 = .ok (.getfield 10, 3) := by decide +kernel
theorem d_Bus_memory_11 : decode b_Bus_memory 11 = .ok (.getfield 122, 3) := by decide +kernel
theorem d_Bus_memory_14 : decode b_Bus_memory 14 = .ok (.iload_n 1, 1) := by decide +kernel
theorem d_Bus_memory_15 : decode b_Bus_memory 15 = .ok (.iaload, 1) := by decide +kernel
theorem d_Bus_memory_16 : decode b_Bus_memory 16 = .ok (.goto 4, 3) := by decide +kernel
theorem d_Bus_memory_19 : decode b_Bus_memory 19 = .ok (.iconst 0, 1) := by decide +kernel
theorem d_Bus_memory_20 : decode b_Bus_memory 20 = .ok (.ireturn, 1) := by decide +kernel
theorem d_Bus_seen_0 : decode b_Bus_seen 0 = .ok (.iload_n 1, 1) := by decide +kernel
theorem d_Bus_seen_1 : decode b_Bus_seen 1 = .ok (.invokestatic 47, 3) := by decide +kernel
theorem d_Bus_seen_4 : decode b_Bus_seen 4 = .ok (.ifCond .ne 5, 3) := by decide +kernel
theorem d_Bus_seen_7 : decode b_Bus_seen 7 = .ok (.iconst 0, 1) := by decide +kernel
theorem d_Bus_seen_8 : decode b_Bus_seen 8 = .ok (.ireturn, 1) := by decide +kernel
theorem d_Bus_seen_9 : decode b_Bus_seen 9 = .ok (.iload_n 1, 1) := by decide +kernel
theorem d_Bus_seen_10 : decode b_Bus_seen 10 = .ok (.invokestatic 69, 3) := by decide +kernel
theorem d_Bus_seen_13 : decode b_Bus_seen 13 = .ok (.istore_n 2, 1) := by decide +kernel
theorem d_Bus_seen_14 : decode b_Bus_seen 14 = .ok (.iconst 0, 1) := by decide +kernel
theorem d_Bus_seen_15 : decode b_Bus_seen 15 = .ok (.istore_n 3, 1) := by decide +kernel
theorem d_Bus_seen_16 : decode b_Bus_seen 16 = .ok (.iload_n 3, 1) := by decide +kernel
theorem d_Bus_seen_17 : decode b_Bus_seen 17 = .ok (.aload_n 0, 1) := by decide +kernel
theorem d_Bus_seen_18 : decode b_Bus_seen 18 = .ok (.getfield 27, 3) := by decide +kernel
theorem d_Bus_seen_21 : decode b_Bus_seen 21 = .ok (.arraylength, 1) := by decide +kernel
theorem d_Bus_seen_22 : decode b_Bus_seen 22 = .ok (.if_icmp .ge 42, 3) := by decide +kernel
theorem d_Bus_seen_25 : decode b_Bus_seen 25 = .ok (.aload_n 0, 1) := by decide +kernel
theorem d_Bus_seen_26 : decode b_Bus_seen 26 = .ok (.getfield 27, 3) := by decide +kernel
theorem d_Bus_seen_29 : decode b_Bus_seen 29 = .ok (.iload_n 3, 1) := by decide +kernel
theorem d_Bus_seen_30 : decode b_Bus_seen 30 = .ok (.aaload, 1) := by decide +kernel
theorem d_Bus_seen_31 : decode b_Bus_seen 31 = .ok (.getfield 65, 3) := by decide +kernel
theorem d_Bus_seen_34 : decode b_Bus_seen 34 = .ok (.getfield 110, 3) := by decide +kernel
theorem d_Bus_seen_37 : decode b_Bus_seen 37 = .ok (.iload_n 2, 1) := by decide +kernel
theorem d_Bus_seen_38 : decode b_Bus_seen 38 = .ok (.iaload, 1) := by decide +kernel
theorem d_Bus_seen_39 : decode b_Bus_seen 39 = .ok (.iconst 3, 1) := by decide +kernel
theorem d_Bus_seen_40 : decode b_Bus_seen 40 = .ok (.if_icmp .ne 18, 3) := by decide +kernel
theorem d_Bus_seen_43 : decode b_Bus_seen 43 = .ok (.aload_n 0, 1) := by decide +kernel
theorem d_Bus_seen_44 : decode b_Bus_seen 44 = .ok (.getfield 27, 3) := by decide +kernel
theorem d_Bus_seen_47 : decode b_Bus_seen 47 = .ok (.iload_n 3, 1) := by decide +kernel
theorem d_Bus_seen_48 : decode b_Bus_seen 48 = .ok (.aaload, 1) := by decide +kernel
theorem d_Bus_seen_49 : decode b_Bus_seen 49 = .ok (.getfield 65, 3) := by decide +kernel
theorem d_Bus_seen_52 : decode b_Bus_seen 52 = .ok (.getfield 75, 3) := by decide +kernel
theorem d_Bus_seen_55 : decode b_Bus_seen 55 = .ok (.iload_n 1, 1) := by decide +kernel
theorem d_Bus_seen_56 : decode b_Bus_seen 56 = .ok (.iaload, 1) := by decide +kernel
theorem d_Bus_seen_57 : decode b_Bus_seen 57 = .ok (.ireturn, 1) := by decide +kernel
theorem d_Bus_seen_58 : decode b_Bus_seen 58 = .ok (.iinc 3 1, 3) := by decide +kernel
theorem d_Bus_seen_61 : decode b_Bus_seen 61 = .ok (.goto (-45), 3) := by decide +kernel
theorem d_Bus_seen_64 : decode b_Bus_seen 64 = .ok (.aload_n 0, 1) := by decide +kernel
theorem d_Bus_seen_65 : decode b_Bus_seen 65 = .ok (.getfield 10, 3) := by decide +kernel
theorem d_Bus_seen_68 : decode b_Bus_seen 68 = .ok (.getfield 122, 3) := by decide +kernel
theorem d_Bus_seen_71 : decode b_Bus_seen 71 = .ok (.iload_n 1, 1) := by decide +kernel
theorem d_Bus_seen_72 : decode b_Bus_seen 72 = .ok (.iaload, 1) := by decide +kernel
theorem d_Bus_seen_73 : decode b_Bus_seen 73 = .ok (.ireturn, 1) := by decide +kernel
theorem d_Bus_count_0 : decode b_Bus_count 0 = .ok (.iload_n 1, 1) := by decide +kernel
theorem d_Bus_count_1 : decode b_Bus_count 1 = .ok (.tableswitch 54 0 3 #[31, 36, 44, 49], 31) := by decide +kernel
theorem d_Bus_count_32 : decode b_Bus_count 32 = .ok (.aload_n 0, 1) := by decide +kernel
theorem d_Bus_count_33 : decode b_Bus_count 33 = .ok (.getfield 123, 3) := by decide +kernel
theorem d_Bus_count_36 : decode b_Bus_count 36 = .ok (.ireturn, 1) := by decide +kernel
theorem d_Bus_count_37 : decode b_Bus_count 37 = .ok (.aload_n 0, 1) := by decide +kernel
theorem d_Bus_count_38 : decode b_Bus_count 38 = .ok (.getfield 10, 3) := by decide +kernel
theorem d_Bus_count_41 : decode b_Bus_count 41 = .ok (.getfield 126, 3) := by decide +kernel
theorem d_Bus_count_44 : decode b_Bus_count 44 = .ok (.ireturn, 1) := by decide +kernel
theorem d_Bus_count_45 : decode b_Bus_count 45 = .ok (.aload_n 0, 1) := by decide +kernel
theorem d_Bus_count_46 : decode b_Bus_count 46 = .ok (.getfield 129, 3) := by decide +kernel
theorem d_Bus_count_49 : decode b_Bus_count 49 = .ok (.ireturn, 1) := by decide +kernel
theorem d_Bus_count_50 : decode b_Bus_count 50 = .ok (.aload_n 0, 1) := by decide +kernel
theorem d_Bus_count_51 : decode b_Bus_count 51 = .ok (.getfield 132, 3) := by decide +kernel
theorem d_Bus_count_54 : decode b_Bus_count 54 = .ok (.ireturn, 1) := by decide +kernel
theorem d_Bus_count_55 : decode b_Bus_count 55 = .ok (.iconst (-1), 1) := by decide +kernel
theorem d_Bus_count_56 : decode b_Bus_count 56 = .ok (.ireturn, 1) := by decide +kernel
theorem d_Bus_victim_0 : decode b_Bus_victim 0 = .ok (.aload_n 0, 1) := by decide +kernel
theorem d_Bus_victim_1 : decode b_Bus_victim 1 = .ok (.iload_n 1, 1) := by decide +kernel
theorem d_Bus_victim_2 : decode b_Bus_victim 2 = .ok (.invokevirtual 43, 3) := by decide +kernel
theorem d_Bus_victim_5 : decode b_Bus_victim 5 = .ok (.ifCond .eq 12, 3) := by decide +kernel
theorem d_Bus_victim_8 : decode b_Bus_victim 8 = .ok (.iload_n 2, 1) := by decide +kernel
theorem d_Bus_victim_9 : decode b_Bus_victim 9 = .ok (.ifCond .lt 8, 3) := by decide +kernel
theorem d_Bus_victim_12 : decode b_Bus_victim 12 = .ok (.iload_n 2, 1) := by decide +kernel
theorem d_Bus_victim_13 : decode b_Bus_victim 13 = .ok (.iconst 2, 1) := by decide +kernel
theorem d_Bus_victim_14 : decode b_Bus_victim 14 = .ok (.if_icmp .lt 5, 3) := by decide +kernel
theorem d_Bus_victim_17 : decode b_Bus_victim 17 = .ok (.iconst (-1), 1) := by decide +kernel
theorem d_Bus_victim_18 : decode b_Bus_victim 18 = .ok (.ireturn, 1) := by decide +kernel
theorem d_Bus_victim_19 : decode b_Bus_victim 19 = .ok (.aload_n 0, 1) := by decide +kernel
theorem d_Bus_victim_20 : decode b_Bus_victim 20 = .ok (.getfield 27, 3) := by decide +kernel
theorem d_Bus_victim_23 : decode b_Bus_victim 23 = .ok (.iload_n 1, 1) := by decide +kernel
theorem d_Bus_victim_24 : decode b_Bus_victim 24 = .ok (.aaload, 1) := by decide +kernel
theorem d_Bus_victim_25 : decode b_Bus_victim 25 = .ok (.getfield 65, 3) := by decide +kernel
theorem d_Bus_victim_28 : decode b_Bus_victim 28 = .ok (.iload_n 2, 1) := by decide +kernel
theorem d_Bus_victim_29 : decode b_Bus_victim 29 = .ok (.invokevirtual 135, 3) := by decide +kernel
theorem d_Bus_victim_32 : decode b_Bus_victim 32 = .ok (.istore_n 3, 1) := by decide +kernel
theorem d_Bus_victim_33 : decode b_Bus_victim 33 = .ok (.iload_n 3, 1) := by decide +kernel
theorem d_Bus_victim_34 : decode b_Bus_victim 34 = .ok (.iconst (-1), 1) := by decide +kernel
theorem d_Bus_victim_35 : decode b_Bus_victim 35 = .ok (.if_icmp .ne 7, 3) := by decide +kernel
theorem d_Bus_victim_38 : decode b_Bus_victim 38 = .ok (.iconst (-1), 1) := by decide +kernel
theorem d_Bus_victim_39 : decode b_Bus_victim 39 = .ok (.goto 4, 3) := by decide +kernel
theorem d_Bus_victim_42 : decode b_Bus_victim 42 = .ok (.iload_n 3, 1) := by decide +kernel
theorem d_Bus_victim_43 : decode b_Bus_victim 43 = .ok (.ireturn, 1) := by decide +kernel
