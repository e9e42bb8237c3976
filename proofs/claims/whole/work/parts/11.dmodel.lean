theorem d_Model_init_0 : decode b_Model_init 0 = .ok (.aload_n 0, 1) := by decide +kernel
theorem d_Model_init_1 : decode b_Model_init 1 = .ok (.invokespecial 1, 3) := by decide +kernel
theorem d_Model_init_4 : decode b_Model_init 4 = .ok (.aload_n 0, 1) := by decide +kernel
theorem d_Model_init_5 : decode b_Model_init 5 = .ok (.bipush 32, 2) := by decide +kernel
theorem d_Model_init_7 : decode b_Model_init 7 = .ok (.newarray .int, 2) := by decide +kernel
theorem d_Model_init_9 : decode b_Model_init 9 = .ok (.putfield 7, 3) := by decide +kernel
theorem d_Model_init_12 : decode b_Model_init 12 = .ok (.aload_n 0, 1) := by decide +kernel
theorem d_Model_init_13 : decode b_Model_init 13 = .ok (.bipush 24, 2) := by decide +kernel
theorem d_Model_init_15 : decode b_Model_init 15 = .ok (.newarray .int, 2) := by decide +kernel
theorem d_Model_init_17 : decode b_Model_init 17 = .ok (.putfield 13, 3) := by decide +kernel
theorem d_Model_init_20 : decode b_Model_init 20 = .ok (.aload_n 0, 1) := by decide +kernel
theorem d_Model_init_21 : decode b_Model_init 21 = .ok (.bipush 24, 2) := by decide +kernel
theorem d_Model_init_23 : decode b_Model_init 23 = .ok (.newarray .int, 2) := by decide +kernel
theorem d_Model_init_25 : decode b_Model_init 25 = .ok (.putfield 16, 3) := by decide +kernel
theorem d_Model_init_28 : decode b_Model_init 28 = .ok (.aload_n 0, 1) := by decide +kernel
theorem d_Model_init_29 : decode b_Model_init 29 = .ok (.bipush 24, 2) := by decide +kernel
theorem d_Model_init_31 : decode b_Model_init 31 = .ok (.newarray .int, 2) := by decide +kernel
theorem d_Model_init_33 : decode b_Model_init 33 = .ok (.putfield 19, 3) := by decide +kernel
theorem d_Model_init_36 : decode b_Model_init 36 = .ok (.aload_n 0, 1) := by decide +kernel
theorem d_Model_init_37 : decode b_Model_init 37 = .ok (.bipush 96, 2) := by decide +kernel
theorem d_Model_init_39 : decode b_Model_init 39 = .ok (.newarray .int, 2) := by decide +kernel
theorem d_Model_init_41 : decode b_Model_init 41 = .ok (.putfield 22, 3) := by decide +kernel
theorem d_Model_init_44 : decode b_Model_init 44 = .ok (.aload_n 0, 1) := by decide +kernel
theorem d_Model_init_45 : decode b_Model_init 45 = .ok (.iconst 4, 1) := by decide +kernel
theorem d_Model_init_46 : decode b_Model_init 46 = .ok (.newarray .int, 2) := by decide +kernel
theorem d_Model_init_48 : decode b_Model_init 48 = .ok (.putfield 25, 3) := by decide +kernel
theorem d_Model_init_51 : decode b_Model_init 51 = .ok (.aload_n 0, 1) := by decide +kernel
theorem d_Model_init_52 : decode b_Model_init 52 = .ok (.bipush 16, 2) := by decide +kernel
theorem d_Model_init_54 : decode b_Model_init 54 = .ok (.newarray .int, 2) := by decide +kernel
theorem d_Model_init_56 : decode b_Model_init 56 = .ok (.putfield 28, 3) := by decide +kernel
theorem d_Model_init_59 : decode b_Model_init 59 = .ok (.aload_n 0, 1) := by decide +kernel
theorem d_Model_init_60 : decode b_Model_init 60 = .ok (.bipush 16, 2) := by decide +kernel
theorem d_Model_init_62 : decode b_Model_init 62 = .ok (.newarray .int, 2) := by decide +kernel
theorem d_Model_init_64 : decode b_Model_init 64 = .ok (.putfield 31, 3) := by decide +kernel
theorem d_Model_init_67 : decode b_Model_init 67 = .ok (.aload_n 0, 1) := by decide +kernel
theorem d_Model_init_68 : decode b_Model_init 68 = .ok (.iconst 4, 1) := by decide +kernel
theorem d_Model_init_69 : decode b_Model_init 69 = .ok (.newarray .int, 2) := by decide +kernel
theorem d_Model_init_71 : decode b_Model_init 71 = .ok (.putfield 34, 3) := by decide +kernel
theorem d_Model_init_74 : decode b_Model_init 74 = .ok (.aload_n 0, 1) := by decide +kernel
theorem d_Model_init_75 : decode b_Model_init 75 = .ok (.iconst 4, 1) := by decide +kernel
theorem d_Model_init_76 : decode b_Model_init 76 = .ok (.newarray .int, 2) := by decide +kernel
theorem d_Model_init_78 : decode b_Model_init 78 = .ok (.putfield 37, 3) := by decide +kernel
theorem d_Model_init_81 : decode b_Model_init 81 = .ok (.aload_n 0, 1) := by decide +kernel
theorem d_Model_init_82 : decode b_Model_init 82 = .ok (.iconst 4, 1) := by decide +kernel
theorem d_Model_init_83 : decode b_Model_init 83 = .ok (.newarray .int, 2) := by decide +kernel
theorem d_Model_init_85 : decode b_Model_init 85 = .ok (.putfield 40, 3) := by decide +kernel
theorem d_Model_init_88 : decode b_Model_init 88 = .ok (.aload_n 0, 1) := by decide +kernel
theorem d_Model_init_89 : decode b_Model_init 89 = .ok (.iconst 4, 1) := by decide +kernel
theorem d_Model_init_90 : decode b_Model_init 90 = .ok (.newarray .int, 2) := by decide +kernel
theorem d_Model_init_92 : decode b_Model_init 92 = .ok (.putfield 43, 3) := by decide +kernel
theorem d_Model_init_95 : decode b_Model_init 95 = .ok (.aload_n 0, 1) := by decide +kernel
theorem d_Model_init_96 : decode b_Model_init 96 = .ok (.iconst 4, 1) := by decide +kernel
theorem d_Model_init_97 : decode b_Model_init 97 = .ok (.newarray .int, 2) := by decide +kernel
theorem d_Model_init_99 : decode b_Model_init 99 = .ok (.putfield 46, 3) := by decide +kernel
theorem d_Model_init_102 : decode b_Model_init 102 = .ok (.aload_n 0, 1) := by decide +kernel
theorem d_Model_init_103 : decode b_Model_init 103 = .ok (.iload_n 1, 1) := by decide +kernel
theorem d_Model_init_104 : decode b_Model_init 104 = .ok (.iconst 2, 1) := by decide +kernel
theorem d_Model_init_105 : decode b_Model_init 105 = .ok (.if_icmp .ge 7, 3) := by decide +kernel
theorem d_Model_init_108 : decode b_Model_init 108 = .ok (.iconst 2, 1) := by decide +kernel
theorem d_Model_init_109 : decode b_Model_init 109 = .ok (.goto 13, 3) := by decide +kernel
theorem d_Model_init_112 : decode b_Model_init 112 = .ok (.iload_n 1, 1) := by decide +kernel
theorem d_Model_init_113 : decode b_Model_init 113 = .ok (.iconst 4, 1) := by decide +kernel
theorem d_Model_init_114 : decode b_Model_init 114 = .ok (.if_icmp .le 7, 3) := by decide +kernel
theorem d_Model_init_117 : decode b_Model_init 117 = .ok (.iconst 4, 1) := by decide +kernel
theorem d_Model_init_118 : decode b_Model_init 118 = .ok (.goto 4, 3) := by decide +kernel
theorem d_Model_init_121 : decode b_Model_init 121 = .ok (.iload_n 1, 1) := by decide +kernel
theorem d_Model_init_122 : decode b_Model_init 122 = .ok (.putfield 49, 3) := by decide +kernel
theorem d_Model_init_125 : decode b_Model_init 125 = .ok (.aload_n 0, 1) := by decide +kernel
theorem d_Model_init_126 : decode b_Model_init 126 = .ok (.iload_n 2, 1) := by decide +kernel
theorem d_Model_init_127 : decode b_Model_init 127 = .ok (.iconst 1, 1) := by decide +kernel
theorem d_Model_init_128 : decode b_Model_init 128 = .ok (.if_icmp .ge 7, 3) := by decide +kernel
theorem d_Model_init_131 : decode b_Model_init 131 = .ok (.iconst 1, 1) := by decide +kernel
theorem d_Model_init_132 : decode b_Model_init 132 = .ok (.goto 13, 3) := by decide +kernel
theorem d_Model_init_135 : decode b_Model_init 135 = .ok (.iload_n 2, 1) := by decide +kernel
theorem d_Model_init_136 : decode b_Model_init 136 = .ok (.iconst 3, 1) := by decide +kernel
theorem d_Model_init_137 : decode b_Model_init 137 = .ok (.if_icmp .le 7, 3) := by decide +kernel
theorem d_Model_init_140 : decode b_Model_init 140 = .ok (.iconst 3, 1) := by decide +kernel
theorem d_Model_init_141 : decode b_Model_init 141 = .ok (.goto 4, 3) := by decide +kernel
theorem d_Model_init_144 : decode b_Model_init 144 = .ok (.iload_n 2, 1) := by decide +kernel
theorem d_Model_init_145 : decode b_Model_init 145 = .ok (.putfield 53, 3) := by decide +kernel
theorem d_Model_init_148 : decode b_Model_init 148 = .ok (.return_, 1) := by decide +kernel
theorem d_Model_load_0 : decode b_Model_load 0 = .ok (.aload_n 0, 1) := by decide +kernel
theorem d_Model_load_1 : decode b_Model_load 1 = .ok (.iload_n 1, 1) := by decide +kernel
theorem d_Model_load_2 : decode b_Model_load 2 = .ok (.iload_n 2, 1) := by decide +kernel
theorem d_Model_load_3 : decode b_Model_load 3 = .ok (.invokevirtual 77, 3) := by decide +kernel
theorem d_Model_load_6 : decode b_Model_load 6 = .ok (.istore_n 3, 1) := by decide +kernel
theorem d_Model_load_7 : decode b_Model_load 7 = .ok (.iload_n 3, 1) := by decide +kernel
theorem d_Model_load_8 : decode b_Model_load 8 = .ok (.ifCond .ge 5, 3) := by decide +kernel
theorem d_Model_load_11 : decode b_Model_load 11 = .ok (.iload_n 3, 1) := by decide +kernel
theorem d_Model_load_12 : decode b_Model_load 12 = .ok (.ireturn, 1) := by decide +kernel
theorem d_Model_load_13 : decode b_Model_load 13 = .ok (.aload_n 0, 1) := by decide +kernel
theorem d_Model_load_14 : decode b_Model_load 14 = .ok (.getfield 25, 3) := by decide +kernel
theorem d_Model_load_17 : decode b_Model_load 17 = .ok (.iload_n 1, 1) := by decide +kernel
theorem d_Model_load_18 : decode b_Model_load 18 = .ok (.iaload, 1) := by decide +kernel
theorem d_Model_load_19 : decode b_Model_load 19 = .ok (.iconst 1, 1) := by decide +kernel
theorem d_Model_load_20 : decode b_Model_load 20 = .ok (.isub, 1) := by decide +kernel
theorem d_Model_load_21 : decode b_Model_load 21 = .ok (.istore 4, 2) := by decide +kernel
theorem d_Model_load_23 : decode b_Model_load 23 = .ok (.iload 4, 2) := by decide +kernel
theorem d_Model_load_25 : decode b_Model_load 25 = .ok (.ifCond .lt 43, 3) := by decide +kernel
theorem d_Model_load_28 : decode b_Model_load 28 = .ok (.aload_n 0, 1) := by decide +kernel
theorem d_Model_load_29 : decode b_Model_load 29 = .ok (.getfield 28, 3) := by decide +kernel
theorem d_Model_load_32 : decode b_Model_load 32 = .ok (.iconst 4, 1) := by decide +kernel
theorem d_Model_load_33 : decode b_Model_load 33 = .ok (.iload_n 1, 1) := by decide +kernel
theorem d_Model_load_34 : decode b_Model_load 34 = .ok (.imul, 1) := by decide +kernel
theorem d_Model_load_35 : decode b_Model_load 35 = .ok (.iload 4, 2) := by decide +kernel
theorem d_Model_load_37 : decode b_Model_load 37 = .ok (.iadd, 1) := by decide +kernel
theorem d_Model_load_38 : decode b_Model_load 38 = .ok (.iaload, 1) := by decide +kernel
theorem d_Model_load_39 : decode b_Model_load 39 = .ok (.iload_n 2, 1) := by decide +kernel
theorem d_Model_load_40 : decode b_Model_load 40 = .ok (.if_icmp .ne 22, 3) := by decide +kernel
theorem d_Model_load_43 : decode b_Model_load 43 = .ok (.aload_n 0, 1) := by decide +kernel
theorem d_Model_load_44 : decode b_Model_load 44 = .ok (.getfield 34, 3) := by decide +kernel
theorem d_Model_load_47 : decode b_Model_load 47 = .ok (.iload_n 1, 1) := by decide +kernel
theorem d_Model_load_48 : decode b_Model_load 48 = .ok (.aload_n 0, 1) := by decide +kernel
theorem d_Model_load_49 : decode b_Model_load 49 = .ok (.getfield 31, 3) := by decide +kernel
theorem d_Model_load_52 : decode b_Model_load 52 = .ok (.iconst 4, 1) := by decide +kernel
theorem d_Model_load_53 : decode b_Model_load 53 = .ok (.iload_n 1, 1) := by decide +kernel
theorem d_Model_load_54 : decode b_Model_load 54 = .ok (.imul, 1) := by decide +kernel
theorem d_Model_load_55 : decode b_Model_load 55 = .ok (.iload 4, 2) := by decide +kernel
theorem d_Model_load_57 : decode b_Model_load 57 = .ok (.iadd, 1) := by decide +kernel
theorem d_Model_load_58 : decode b_Model_load 58 = .ok (.iaload, 1) := by decide +kernel
theorem d_Model_load_59 : decode b_Model_load 59 = .ok (.iastore, 1) := by decide +kernel
theorem d_Model_load_60 : decode b_Model_load 60 = .ok (.iconst 0, 1) := by decide +kernel
theorem d_Model_load_61 : decode b_Model_load 61 = .ok (.ireturn, 1) := by decide +kernel
theorem d_Model_load_62 : decode b_Model_load 62 = .ok (.iinc 4 (-1), 3) := by decide +kernel
theorem d_Model_load_65 : decode b_Model_load 65 = .ok (.goto (-42), 3) := by decide +kernel
theorem d_Model_load_68 : decode b_Model_load 68 = .ok (.aload_n 0, 1) := by decide +kernel
theorem d_Model_load_69 : decode b_Model_load 69 = .ok (.iload_n 1, 1) := by decide +kernel
theorem d_Model_load_70 : decode b_Model_load 70 = .ok (.iload_n 2, 1) := by decide +kernel
theorem d_Model_load_71 : decode b_Model_load 71 = .ok (.iconst 4, 1) := by decide +kernel
theorem d_Model_load_72 : decode b_Model_load 72 = .ok (.idiv, 1) := by decide +kernel
theorem d_Model_load_73 : decode b_Model_load 73 = .ok (.invokevirtual 80, 3) := by decide +kernel
theorem d_Model_load_76 : decode b_Model_load 76 = .ok (.istore 4, 2) := by decide +kernel
theorem d_Model_load_78 : decode b_Model_load 78 = .ok (.iload 4, 2) := by decide +kernel
theorem d_Model_load_80 : decode b_Model_load 80 = .ok (.ifCond .ge 12, 3) := by decide +kernel
theorem d_Model_load_83 : decode b_Model_load 83 = .ok (.aload_n 0, 1) := by decide +kernel
theorem d_Model_load_84 : decode b_Model_load 84 = .ok (.iload_n 1, 1) := by decide +kernel
theorem d_Model_load_85 : decode b_Model_load 85 = .ok (.iconst 1, 1) := by decide +kernel
theorem d_Model_load_86 : decode b_Model_load 86 = .ok (.iload_n 2, 1) := by decide +kernel
theorem d_Model_load_87 : decode b_Model_load 87 = .ok (.iconst 0, 1) := by decide +kernel
theorem d_Model_load_88 : decode b_Model_load 88 = .ok (.invokevirtual 83, 3) := by decide +kernel
theorem d_Model_load_91 : decode b_Model_load 91 = .ok (.ireturn, 1) := by decide +kernel
theorem d_Model_load_92 : decode b_Model_load 92 = .ok (.aload_n 0, 1) := by decide +kernel
theorem d_Model_load_93 : decode b_Model_load 93 = .ok (.getfield 34, 3) := by decide +kernel
theorem d_Model_load_96 : decode b_Model_load 96 = .ok (.iload_n 1, 1) := by decide +kernel
theorem d_Model_load_97 : decode b_Model_load 97 = .ok (.aload_n 0, 1) := by decide +kernel
theorem d_Model_load_98 : decode b_Model_load 98 = .ok (.iload 4, 2) := by decide +kernel
theorem d_Model_load_100 : decode b_Model_load 100 = .ok (.iload_n 2, 1) := by decide +kernel
theorem d_Model_load_101 : decode b_Model_load 101 = .ok (.invokevirtual 87, 3) := by decide +kernel
theorem d_Model_load_104 : decode b_Model_load 104 = .ok (.iastore, 1) := by decide +kernel
theorem d_Model_load_105 : decode b_Model_load 105 = .ok (.aload_n 0, 1) := by decide +kernel
theorem d_Model_load_106 : decode b_Model_load 106 = .ok (.iload 4, 2) := by decide +kernel
theorem d_Model_load_108 : decode b_Model_load 108 = .ok (.invokevirtual 74, 3) := by decide +kernel
theorem d_Model_load_111 : decode b_Model_load 111 = .ok (.iconst 0, 1) := by decide +kernel
theorem d_Model_load_112 : decode b_Model_load 112 = .ok (.ireturn, 1) := by decide +kernel
theorem d_Model_bars_0 : decode b_Model_bars 0 = .ok (.aload_n 0, 1) := by decide +kernel
theorem d_Model_bars_1 : decode b_Model_bars 1 = .ok (.iload_n 1, 1) := by decide +kernel
theorem d_Model_bars_2 : decode b_Model_bars 2 = .ok (.invokevirtual 56, 3) := by decide +kernel
theorem d_Model_bars_5 : decode b_Model_bars 5 = .ok (.ifCond .eq 10, 3) := by decide +kernel
theorem d_Model_bars_8 : decode b_Model_bars 8 = .ok (.iload_n 2, 1) := by decide +kernel
theorem d_Model_bars_9 : decode b_Model_bars 9 = .ok (.invokestatic 60, 3) := by decide +kernel
theorem d_Model_bars_12 : decode b_Model_bars 12 = .ok (.ifCond .ne 7, 3) := by decide +kernel
theorem d_Model_bars_15 : decode b_Model_bars 15 = .ok (.iconst (-1), 1) := by decide +kernel
theorem d_Model_bars_16 : decode b_Model_bars 16 = .ok (.goto 18, 3) := by decide +kernel
theorem d_Model_bars_19 : decode b_Model_bars 19 = .ok (.aload_n 0, 1) := by decide +kernel
theorem d_Model_bars_20 : decode b_Model_bars 20 = .ok (.getfield 37, 3) := by decide +kernel
theorem d_Model_bars_23 : decode b_Model_bars 23 = .ok (.iload_n 1, 1) := by decide +kernel
theorem d_Model_bars_24 : decode b_Model_bars 24 = .ok (.iaload, 1) := by decide +kernel
theorem d_Model_bars_25 : decode b_Model_bars 25 = .ok (.ifCond .le 8, 3) := by decide +kernel
theorem d_Model_bars_28 : decode b_Model_bars 28 = .ok (.bipush (-2), 2) := by decide +kernel
theorem d_Model_bars_30 : decode b_Model_bars 30 = .ok (.goto 4, 3) := by decide +kernel
theorem d_Model_bars_33 : decode b_Model_bars 33 = .ok (.iconst 0, 1) := by decide +kernel
theorem d_Model_bars_34 : decode b_Model_bars 34 = .ok (.ireturn, 1) := by decide +kernel
theorem d_Model_isCore_0 : decode b_Model_isCore 0 = .ok (.iload_n 1, 1) := by decide +kernel
theorem d_Model_isCore_1 : decode b_Model_isCore 1 = .ok (.ifCond .lt 15, 3) := by decide +kernel
theorem d_Model_isCore_4 : decode b_Model_isCore 4 = .ok (.iload_n 1, 1) := by decide +kernel
theorem d_Model_isCore_5 : decode b_Model_isCore 5 = .ok (.aload_n 0, 1) := by decide +kernel
theorem d_Model_isCore_6 : decode b_Model_isCore 6 = .ok (.getfield 49, 3) := by decide +kernel
theorem d_Model_isCore_9 : decode b_Model_isCore 9 = .ok (.if_icmp .ge 7, 3) := by decide +kernel
theorem d_Model_isCore_12 : decode b_Model_isCore 12 = .ok (.iconst 1, 1) := by decide +kernel
theorem d_Model_isCore_13 : decode b_Model_isCore 13 = .ok (.goto 4, 3) := by decide +kernel
theorem d_Model_isCore_16 : decode b_Model_isCore 16 = .ok (.iconst 0, 1) := by decide +kernel
theorem d_Model_isCore_17 : decode b_Model_isCore 17 = .ok (.ireturn, 1) := by decide +kernel
theorem d_Model_isAddress_0 : decode b_Model_isAddress 0 = .ok (.iload_n 0, 1) := by decide +kernel
theorem d_Model_isAddress_1 : decode b_Model_isAddress 1 = .ok (.ifCond .lt 13, 3) := by decide +kernel
theorem d_Model_isAddress_4 : decode b_Model_isAddress 4 = .ok (.iload_n 0, 1) := by decide +kernel
theorem d_Model_isAddress_5 : decode b_Model_isAddress 5 = .ok (.bipush 32, 2) := by decide +kernel
theorem d_Model_isAddress_7 : decode b_Model_isAddress 7 = .ok (.if_icmp .ge 7, 3) := by decide +kernel
theorem d_Model_isAddress_10 : decode b_Model_isAddress 10 = .ok (.iconst 1, 1) := by decide +kernel
theorem d_Model_isAddress_11 : decode b_Model_isAddress 11 = .ok (.goto 4, 3) := by decide +kernel
theorem d_Model_isAddress_14 : decode b_Model_isAddress 14 = .ok (.iconst 0, 1) := by decide +kernel
theorem d_Model_isAddress_15 : decode b_Model_isAddress 15 = .ok (.ireturn, 1) := by decide +kernel
theorem d_Model_find_0 : decode b_Model_find 0 = .ok (.iconst (-1), 1) := by decide +kernel
theorem d_Model_find_1 : decode b_Model_find 1 = .ok (.istore_n 3, 1) := by decide +kernel
theorem d_Model_find_2 : decode b_Model_find 2 = .ok (.bipush 6, 2) := by decide +kernel
theorem d_Model_find_4 : decode b_Model_find 4 = .ok (.iload_n 1, 1) := by decide +kernel
theorem d_Model_find_5 : decode b_Model_find 5 = .ok (.imul, 1) := by decide +kernel
theorem d_Model_find_6 : decode b_Model_find 6 = .ok (.istore 4, 2) := by decide +kernel
theorem d_Model_find_8 : decode b_Model_find 8 = .ok (.iload 4, 2) := by decide +kernel
theorem d_Model_find_10 : decode b_Model_find 10 = .ok (.bipush 6, 2) := by decide +kernel
theorem d_Model_find_12 : decode b_Model_find 12 = .ok (.iload_n 1, 1) := by decide +kernel
theorem d_Model_find_13 : decode b_Model_find 13 = .ok (.imul, 1) := by decide +kernel
theorem d_Model_find_14 : decode b_Model_find 14 = .ok (.bipush 6, 2) := by decide +kernel
theorem d_Model_find_16 : decode b_Model_find 16 = .ok (.iadd, 1) := by decide +kernel
theorem d_Model_find_17 : decode b_Model_find 17 = .ok (.if_icmp .ge 37, 3) := by decide +kernel
theorem d_Model_find_20 : decode b_Model_find 20 = .ok (.aload_n 0, 1) := by decide +kernel
theorem d_Model_find_21 : decode b_Model_find 21 = .ok (.getfield 16, 3) := by decide +kernel
theorem d_Model_find_24 : decode b_Model_find 24 = .ok (.iload 4, 2) := by decide +kernel
theorem d_Model_find_26 : decode b_Model_find 26 = .ok (.iaload, 1) := by decide +kernel
theorem d_Model_find_27 : decode b_Model_find 27 = .ok (.ifCond .eq 19, 3) := by decide +kernel
theorem d_Model_find_30 : decode b_Model_find 30 = .ok (.aload_n 0, 1) := by decide +kernel
theorem d_Model_find_31 : decode b_Model_find 31 = .ok (.getfield 13, 3) := by decide +kernel
theorem d_Model_find_34 : decode b_Model_find 34 = .ok (.iload 4, 2) := by decide +kernel
theorem d_Model_find_36 : decode b_Model_find 36 = .ok (.iaload, 1) := by decide +kernel
theorem d_Model_find_37 : decode b_Model_find 37 = .ok (.iload_n 2, 1) := by decide +kernel
theorem d_Model_find_38 : decode b_Model_find 38 = .ok (.if_icmp .ne 8, 3) := by decide +kernel
theorem d_Model_find_41 : decode b_Model_find 41 = .ok (.iload 4, 2) := by decide +kernel
theorem d_Model_find_43 : decode b_Model_find 43 = .ok (.goto 4, 3) := by decide +kernel
theorem d_Model_find_46 : decode b_Model_find 46 = .ok (.iload_n 3, 1) := by decide +kernel
theorem d_Model_find_47 : decode b_Model_find 47 = .ok (.istore_n 3, 1) := by decide +kernel
theorem d_Model_find_48 : decode b_Model_find 48 = .ok (.iinc 4 1, 3) := by decide +kernel
theorem d_Model_find_51 : decode b_Model_find 51 = .ok (.goto (-43), 3) := by decide +kernel
theorem d_Model_find_54 : decode b_Model_find 54 = .ok (.iload_n 3, 1) := by decide +kernel
theorem d_Model_find_55 : decode b_Model_find 55 = .ok (.ireturn, 1) := by decide +kernel
theorem d_Model_ask_0 : decode b_Model_ask 0 = .ok (.aload_n 0, 1) := by decide +kernel
theorem d_Model_ask_1 : decode b_Model_ask 1 = .ok (.getfield 37, 3) := by decide +kernel
theorem d_Model_ask_4 : decode b_Model_ask 4 = .ok (.iload_n 1, 1) := by decide +kernel
theorem d_Model_ask_5 : decode b_Model_ask 5 = .ok (.iload_n 2, 1) := by decide +kernel
theorem d_Model_ask_6 : decode b_Model_ask 6 = .ok (.iastore, 1) := by decide +kernel
theorem d_Model_ask_7 : decode b_Model_ask 7 = .ok (.aload_n 0, 1) := by decide +kernel
theorem d_Model_ask_8 : decode b_Model_ask 8 = .ok (.getfield 40, 3) := by decide +kernel
theorem d_Model_ask_11 : decode b_Model_ask 11 = .ok (.iload_n 1, 1) := by decide +kernel
theorem d_Model_ask_12 : decode b_Model_ask 12 = .ok (.iload_n 3, 1) := by decide +kernel
theorem d_Model_ask_13 : decode b_Model_ask 13 = .ok (.iastore, 1) := by decide +kernel
theorem d_Model_ask_14 : decode b_Model_ask 14 = .ok (.aload_n 0, 1) := by decide +kernel
theorem d_Model_ask_15 : decode b_Model_ask 15 = .ok (.getfield 43, 3) := by decide +kernel
theorem d_Model_ask_18 : decode b_Model_ask 18 = .ok (.iload_n 1, 1) := by decide +kernel
theorem d_Model_ask_19 : decode b_Model_ask 19 = .ok (.iload 4, 2) := by decide +kernel
theorem d_Model_ask_21 : decode b_Model_ask 21 = .ok (.iastore, 1) := by decide +kernel
theorem d_Model_ask_22 : decode b_Model_ask 22 = .ok (.iconst 1, 1) := by decide +kernel
theorem d_Model_ask_23 : decode b_Model_ask 23 = .ok (.ireturn, 1) := by decide +kernel
theorem d_Model_wordAt_0 : decode b_Model_wordAt 0 = .ok (.aload_n 0, 1) := by decide +kernel
theorem d_Model_wordAt_1 : decode b_Model_wordAt 1 = .ok (.getfield 22, 3) := by decide +kernel
theorem d_Model_wordAt_4 : decode b_Model_wordAt 4 = .ok (.iconst 4, 1) := by decide +kernel
theorem d_Model_wordAt_5 : decode b_Model_wordAt 5 = .ok (.iload_n 1, 1) := by decide +kernel
theorem d_Model_wordAt_6 : decode b_Model_wordAt 6 = .ok (.imul, 1) := by decide +kernel
theorem d_Model_wordAt_7 : decode b_Model_wordAt 7 = .ok (.iload_n 2, 1) := by decide +kernel
theorem d_Model_wordAt_8 : decode b_Model_wordAt 8 = .ok (.iconst 4, 1) := by decide +kernel
theorem d_Model_wordAt_9 : decode b_Model_wordAt 9 = .ok (.irem, 1) := by decide +kernel
theorem d_Model_wordAt_10 : decode b_Model_wordAt 10 = .ok (.iadd, 1) := by decide +kernel
theorem d_Model_wordAt_11 : decode b_Model_wordAt 11 = .ok (.iaload, 1) := by decide +kernel
theorem d_Model_wordAt_12 : decode b_Model_wordAt 12 = .ok (.ireturn, 1) := by decide +kernel
theorem d_Model_use_0 : decode b_Model_use 0 = .ok (.aload_n 0, 1) := by decide +kernel
theorem d_Model_use_1 : decode b_Model_use 1 = .ok (.dup, 1) := by decide +kernel
theorem d_Model_use_2 : decode b_Model_use 2 = .ok (.getfield 63, 3) := by decide +kernel
theorem d_Model_use_5 : decode b_Model_use 5 = .ok (.iconst 1, 1) := by decide +kernel
theorem d_Model_use_6 : decode b_Model_use 6 = .ok (.iadd, 1) := by decide +kernel
theorem d_Model_use_7 : decode b_Model_use 7 = .ok (.putfield 63, 3) := by decide +kernel
theorem d_Model_use_10 : decode b_Model_use 10 = .ok (.aload_n 0, 1) := by decide +kernel
theorem d_Model_use_11 : decode b_Model_use 11 = .ok (.getfield 19, 3) := by decide +kernel
theorem d_Model_use_14 : decode b_Model_use 14 = .ok (.iload_n 1, 1) := by decide +kernel
theorem d_Model_use_15 : decode b_Model_use 15 = .ok (.aload_n 0, 1) := by decide +kernel
theorem d_Model_use_16 : decode b_Model_use 16 = .ok (.getfield 63, 3) := by decide +kernel
theorem d_Model_use_19 : decode b_Model_use 19 = .ok (.iastore, 1) := by decide +kernel
theorem d_Model_use_20 : decode b_Model_use 20 = .ok (.return_, 1) := by decide +kernel
theorem d_Model_store_0 : decode b_Model_store 0 = .ok (.aload_n 0, 1) := by decide +kernel
theorem d_Model_store_1 : decode b_Model_store 1 = .ok (.iload_n 1, 1) := by decide +kernel
theorem d_Model_store_2 : decode b_Model_store 2 = .ok (.iload_n 2, 1) := by decide +kernel
theorem d_Model_store_3 : decode b_Model_store 3 = .ok (.invokevirtual 77, 3) := by decide +kernel
theorem d_Model_store_6 : decode b_Model_store 6 = .ok (.istore 4, 2) := by decide +kernel
theorem d_Model_store_8 : decode b_Model_store 8 = .ok (.iload 4, 2) := by decide +kernel
theorem d_Model_store_10 : decode b_Model_store 10 = .ok (.ifCond .ge 6, 3) := by decide +kernel
theorem d_Model_store_13 : decode b_Model_store 13 = .ok (.iload 4, 2) := by decide +kernel
theorem d_Model_store_15 : decode b_Model_store 15 = .ok (.ireturn, 1) := by decide +kernel
theorem d_Model_store_16 : decode b_Model_store 16 = .ok (.aload_n 0, 1) := by decide +kernel
theorem d_Model_store_17 : decode b_Model_store 17 = .ok (.getfield 25, 3) := by decide +kernel
theorem d_Model_store_20 : decode b_Model_store 20 = .ok (.iload_n 1, 1) := by decide +kernel
theorem d_Model_store_21 : decode b_Model_store 21 = .ok (.iaload, 1) := by decide +kernel
theorem d_Model_store_22 : decode b_Model_store 22 = .ok (.iconst 4, 1) := by decide +kernel
theorem d_Model_store_23 : decode b_Model_store 23 = .ok (.if_icmp .ne 6, 3) := by decide +kernel
theorem d_Model_store_26 : decode b_Model_store 26 = .ok (.bipush (-3), 2) := by decide +kernel
theorem d_Model_store_28 : decode b_Model_store 28 = .ok (.ireturn, 1) := by decide +kernel
theorem d_Model_store_29 : decode b_Model_store 29 = .ok (.aload_n 0, 1) := by decide +kernel
theorem d_Model_store_30 : decode b_Model_store 30 = .ok (.getfield 28, 3) := by decide +kernel
theorem d_Model_store_33 : decode b_Model_store 33 = .ok (.iconst 4, 1) := by decide +kernel
theorem d_Model_store_34 : decode b_Model_store 34 = .ok (.iload_n 1, 1) := by decide +kernel
theorem d_Model_store_35 : decode b_Model_store 35 = .ok (.imul, 1) := by decide +kernel
theorem d_Model_store_36 : decode b_Model_store 36 = .ok (.aload_n 0, 1) := by decide +kernel
theorem d_Model_store_37 : decode b_Model_store 37 = .ok (.getfield 25, 3) := by decide +kernel
theorem d_Model_store_40 : decode b_Model_store 40 = .ok (.iload_n 1, 1) := by decide +kernel
theorem d_Model_store_41 : decode b_Model_store 41 = .ok (.iaload, 1) := by decide +kernel
theorem d_Model_store_42 : decode b_Model_store 42 = .ok (.iadd, 1) := by decide +kernel
theorem d_Model_store_43 : decode b_Model_store 43 = .ok (.iload_n 2, 1) := by decide +kernel
theorem d_Model_store_44 : decode b_Model_store 44 = .ok (.iastore, 1) := by decide +kernel
theorem d_Model_store_45 : decode b_Model_store 45 = .ok (.aload_n 0, 1) := by decide +kernel
theorem d_Model_store_46 : decode b_Model_store 46 = .ok (.getfield 31, 3) := by decide +kernel
theorem d_Model_store_49 : decode b_Model_store 49 = .ok (.iconst 4, 1) := by decide +kernel
theorem d_Model_store_50 : decode b_Model_store 50 = .ok (.iload_n 1, 1) := by decide +kernel
theorem d_Model_store_51 : decode b_Model_store 51 = .ok (.imul, 1) := by decide +kernel
theorem d_Model_store_52 : decode b_Model_store 52 = .ok (.aload_n 0, 1) := by decide +kernel
theorem d_Model_store_53 : decode b_Model_store 53 = .ok (.getfield 25, 3) := by decide +kernel
theorem d_Model_store_56 : decode b_Model_store 56 = .ok (.iload_n 1, 1) := by decide +kernel
theorem d_Model_store_57 : decode b_Model_store 57 = .ok (.iaload, 1) := by decide +kernel
theorem d_Model_store_58 : decode b_Model_store 58 = .ok (.iadd, 1) := by decide +kernel
theorem d_Model_store_59 : decode b_Model_store 59 = .ok (.iload_n 3, 1) := by decide +kernel
theorem d_Model_store_60 : decode b_Model_store 60 = .ok (.iastore, 1) := by decide +kernel
theorem d_Model_store_61 : decode b_Model_store 61 = .ok (.aload_n 0, 1) := by decide +kernel
theorem d_Model_store_62 : decode b_Model_store 62 = .ok (.getfield 25, 3) := by decide +kernel
theorem d_Model_store_65 : decode b_Model_store 65 = .ok (.iload_n 1, 1) := by decide +kernel
theorem d_Model_store_66 : decode b_Model_store 66 = .ok (.dup2, 1) := by decide +kernel
theorem d_Model_store_67 : decode b_Model_store 67 = .ok (.iaload, 1) := by decide +kernel
theorem d_Model_store_68 : decode b_Model_store 68 = .ok (.iconst 1, 1) := by decide +kernel
theorem d_Model_store_69 : decode b_Model_store 69 = .ok (.iadd, 1) := by decide +kernel
theorem d_Model_store_70 : decode b_Model_store 70 = .ok (.iastore, 1) := by decide +kernel
theorem d_Model_store_71 : decode b_Model_store 71 = .ok (.aload_n 0, 1) := by decide +kernel
theorem d_Model_store_72 : decode b_Model_store 72 = .ok (.getfield 25, 3) := by decide +kernel
theorem d_Model_store_75 : decode b_Model_store 75 = .ok (.iload_n 1, 1) := by decide +kernel
theorem d_Model_store_76 : decode b_Model_store 76 = .ok (.iaload, 1) := by decide +kernel
theorem d_Model_store_77 : decode b_Model_store 77 = .ok (.ireturn, 1) := by decide +kernel
theorem d_Model_drain_0 : decode b_Model_drain 0 = .ok (.aload_n 0, 1) := by decide +kernel
theorem d_Model_drain_1 : decode b_Model_drain 1 = .ok (.iload_n 1, 1) := by decide +kernel
theorem d_Model_drain_2 : decode b_Model_drain 2 = .ok (.iconst 0, 1) := by decide +kernel
theorem d_Model_drain_3 : decode b_Model_drain 3 = .ok (.invokevirtual 77, 3) := by decide +kernel
theorem d_Model_drain_6 : decode b_Model_drain 6 = .ok (.istore_n 2, 1) := by decide +kernel
theorem d_Model_drain_7 : decode b_Model_drain 7 = .ok (.iload_n 2, 1) := by decide +kernel
theorem d_Model_drain_8 : decode b_Model_drain 8 = .ok (.ifCond .ge 5, 3) := by decide +kernel
theorem d_Model_drain_11 : decode b_Model_drain 11 = .ok (.iload_n 2, 1) := by decide +kernel
theorem d_Model_drain_12 : decode b_Model_drain 12 = .ok (.ireturn, 1) := by decide +kernel
theorem d_Model_drain_13 : decode b_Model_drain 13 = .ok (.aload_n 0, 1) := by decide +kernel
theorem d_Model_drain_14 : decode b_Model_drain 14 = .ok (.getfield 25, 3) := by decide +kernel
theorem d_Model_drain_17 : decode b_Model_drain 17 = .ok (.iload_n 1, 1) := by decide +kernel
theorem d_Model_drain_18 : decode b_Model_drain 18 = .ok (.iaload, 1) := by decide +kernel
theorem d_Model_drain_19 : decode b_Model_drain 19 = .ok (.ifCond .ne 6, 3) := by decide +kernel
theorem d_Model_drain_22 : decode b_Model_drain 22 = .ok (.bipush (-4), 2) := by decide +kernel
theorem d_Model_drain_24 : decode b_Model_drain 24 = .ok (.ireturn, 1) := by decide +kernel
theorem d_Model_drain_25 : decode b_Model_drain 25 = .ok (.aload_n 0, 1) := by decide +kernel
theorem d_Model_drain_26 : decode b_Model_drain 26 = .ok (.iload_n 1, 1) := by decide +kernel
theorem d_Model_drain_27 : decode b_Model_drain 27 = .ok (.aload_n 0, 1) := by decide +kernel
theorem d_Model_drain_28 : decode b_Model_drain 28 = .ok (.getfield 28, 3) := by decide +kernel
theorem d_Model_drain_31 : decode b_Model_drain 31 = .ok (.iconst 4, 1) := by decide +kernel
theorem d_Model_drain_32 : decode b_Model_drain 32 = .ok (.iload_n 1, 1) := by decide +kernel
theorem d_Model_drain_33 : decode b_Model_drain 33 = .ok (.imul, 1) := by decide +kernel
theorem d_Model_drain_34 : decode b_Model_drain 34 = .ok (.iaload, 1) := by decide +kernel
theorem d_Model_drain_35 : decode b_Model_drain 35 = .ok (.iconst 4, 1) := by decide +kernel
theorem d_Model_drain_36 : decode b_Model_drain 36 = .ok (.idiv, 1) := by decide +kernel
theorem d_Model_drain_37 : decode b_Model_drain 37 = .ok (.invokevirtual 80, 3) := by decide +kernel
theorem d_Model_drain_40 : decode b_Model_drain 40 = .ok (.istore_n 3, 1) := by decide +kernel
theorem d_Model_drain_41 : decode b_Model_drain 41 = .ok (.aload_n 0, 1) := by decide +kernel
theorem d_Model_drain_42 : decode b_Model_drain 42 = .ok (.iload_n 3, 1) := by decide +kernel
theorem d_Model_drain_43 : decode b_Model_drain 43 = .ok (.invokevirtual 94, 3) := by decide +kernel
theorem d_Model_drain_46 : decode b_Model_drain 46 = .ok (.ifCond .ne 19, 3) := by decide +kernel
theorem d_Model_drain_49 : decode b_Model_drain 49 = .ok (.aload_n 0, 1) := by decide +kernel
theorem d_Model_drain_50 : decode b_Model_drain 50 = .ok (.iload_n 1, 1) := by decide +kernel
theorem d_Model_drain_51 : decode b_Model_drain 51 = .ok (.iconst 2, 1) := by decide +kernel
theorem d_Model_drain_52 : decode b_Model_drain 52 = .ok (.aload_n 0, 1) := by decide +kernel
theorem d_Model_drain_53 : decode b_Model_drain 53 = .ok (.getfield 28, 3) := by decide +kernel
theorem d_Model_drain_56 : decode b_Model_drain 56 = .ok (.iconst 4, 1) := by decide +kernel
theorem d_Model_drain_57 : decode b_Model_drain 57 = .ok (.iload_n 1, 1) := by decide +kernel
theorem d_Model_drain_58 : decode b_Model_drain 58 = .ok (.imul, 1) := by decide +kernel
theorem d_Model_drain_59 : decode b_Model_drain 59 = .ok (.iaload, 1) := by decide +kernel
theorem d_Model_drain_60 : decode b_Model_drain 60 = .ok (.iconst 0, 1) := by decide +kernel
theorem d_Model_drain_61 : decode b_Model_drain 61 = .ok (.invokevirtual 83, 3) := by decide +kernel
theorem d_Model_drain_64 : decode b_Model_drain 64 = .ok (.ireturn, 1) := by decide +kernel
theorem d_Model_drain_65 : decode b_Model_drain 65 = .ok (.aload_n 0, 1) := by decide +kernel
theorem d_Model_drain_66 : decode b_Model_drain 66 = .ok (.iload_n 1, 1) := by decide +kernel
theorem d_Model_drain_67 : decode b_Model_drain 67 = .ok (.iload_n 3, 1) := by decide +kernel
theorem d_Model_drain_68 : decode b_Model_drain 68 = .ok (.invokevirtual 97, 3) := by decide +kernel
theorem d_Model_drain_71 : decode b_Model_drain 71 = .ok (.iconst 0, 1) := by decide +kernel
theorem d_Model_drain_72 : decode b_Model_drain 72 = .ok (.ireturn, 1) := by decide +kernel
theorem d_Model_owns_0 : decode b_Model_owns 0 = .ok (.iload_n 1, 1) := by decide +kernel
theorem d_Model_owns_1 : decode b_Model_owns 1 = .ok (.ifCond .lt 17, 3) := by decide +kernel
theorem d_Model_owns_4 : decode b_Model_owns 4 = .ok (.aload_n 0, 1) := by decide +kernel
theorem d_Model_owns_5 : decode b_Model_owns 5 = .ok (.getfield 16, 3) := by decide +kernel
theorem d_Model_owns_8 : decode b_Model_owns 8 = .ok (.iload_n 1, 1) := by decide +kernel
theorem d_Model_owns_9 : decode b_Model_owns 9 = .ok (.iaload, 1) := by decide +kernel
theorem d_Model_owns_10 : decode b_Model_owns 10 = .ok (.iconst 1, 1) := by decide +kernel
theorem d_Model_owns_11 : decode b_Model_owns 11 = .ok (.if_icmp .eq 7, 3) := by decide +kernel
theorem d_Model_owns_14 : decode b_Model_owns 14 = .ok (.iconst 1, 1) := by decide +kernel
theorem d_Model_owns_15 : decode b_Model_owns 15 = .ok (.goto 4, 3) := by decide +kernel
theorem d_Model_owns_18 : decode b_Model_owns 18 = .ok (.iconst 0, 1) := by decide +kernel
theorem d_Model_owns_19 : decode b_Model_owns 19 = .ok (.ireturn, 1) := by decide +kernel
theorem d_Model_drainTo_0 : decode b_Model_drainTo 0 = .ok (.aload_n 0, 1) := by decide +kernel
theorem d_Model_drainTo_1 : decode b_Model_drainTo 1 = .ok (.iload_n 2, 1) := by decide +kernel
theorem d_Model_drainTo_2 : decode b_Model_drainTo 2 = .ok (.aload_n 0, 1) := by decide +kernel
theorem d_Model_drainTo_3 : decode b_Model_drainTo 3 = .ok (.getfield 28, 3) := by decide +kernel
theorem d_Model_drainTo_6 : decode b_Model_drainTo 6 = .ok (.iconst 4, 1) := by decide +kernel
theorem d_Model_drainTo_7 : decode b_Model_drainTo 7 = .ok (.iload_n 1, 1) := by decide +kernel
theorem d_Model_drainTo_8 : decode b_Model_drainTo 8 = .ok (.imul, 1) := by decide +kernel
theorem d_Model_drainTo_9 : decode b_Model_drainTo 9 = .ok (.iaload, 1) := by decide +kernel
theorem d_Model_drainTo_10 : decode b_Model_drainTo 10 = .ok (.aload_n 0, 1) := by decide +kernel
theorem d_Model_drainTo_11 : decode b_Model_drainTo 11 = .ok (.getfield 31, 3) := by decide +kernel
theorem d_Model_drainTo_14 : decode b_Model_drainTo 14 = .ok (.iconst 4, 1) := by decide +kernel
theorem d_Model_drainTo_15 : decode b_Model_drainTo 15 = .ok (.iload_n 1, 1) := by decide +kernel
theorem d_Model_drainTo_16 : decode b_Model_drainTo 16 = .ok (.imul, 1) := by decide +kernel
theorem d_Model_drainTo_17 : decode b_Model_drainTo 17 = .ok (.iaload, 1) := by decide +kernel
theorem d_Model_drainTo_18 : decode b_Model_drainTo 18 = .ok (.invokevirtual 90, 3) := by decide +kernel
theorem d_Model_drainTo_21 : decode b_Model_drainTo 21 = .ok (.aload_n 0, 1) := by decide +kernel
theorem d_Model_drainTo_22 : decode b_Model_drainTo 22 = .ok (.getfield 25, 3) := by decide +kernel
theorem d_Model_drainTo_25 : decode b_Model_drainTo 25 = .ok (.iload_n 1, 1) := by decide +kernel
theorem d_Model_drainTo_26 : decode b_Model_drainTo 26 = .ok (.dup2, 1) := by decide +kernel
theorem d_Model_drainTo_27 : decode b_Model_drainTo 27 = .ok (.iaload, 1) := by decide +kernel
theorem d_Model_drainTo_28 : decode b_Model_drainTo 28 = .ok (.iconst 1, 1) := by decide +kernel
theorem d_Model_drainTo_29 : decode b_Model_drainTo 29 = .ok (.isub, 1) := by decide +kernel
theorem d_Model_drainTo_30 : decode b_Model_drainTo 30 = .ok (.iastore, 1) := by decide +kernel
theorem d_Model_drainTo_31 : decode b_Model_drainTo 31 = .ok (.iconst 0, 1) := by decide +kernel
theorem d_Model_drainTo_32 : decode b_Model_drainTo 32 = .ok (.istore_n 3, 1) := by decide +kernel
theorem d_Model_drainTo_33 : decode b_Model_drainTo 33 = .ok (.iload_n 3, 1) := by decide +kernel
theorem d_Model_drainTo_34 : decode b_Model_drainTo 34 = .ok (.aload_n 0, 1) := by decide +kernel
theorem d_Model_drainTo_35 : decode b_Model_drainTo 35 = .ok (.getfield 25, 3) := by decide +kernel
theorem d_Model_drainTo_38 : decode b_Model_drainTo 38 = .ok (.iload_n 1, 1) := by decide +kernel
theorem d_Model_drainTo_39 : decode b_Model_drainTo 39 = .ok (.iaload, 1) := by decide +kernel
theorem d_Model_drainTo_40 : decode b_Model_drainTo 40 = .ok (.if_icmp .ge 53, 3) := by decide +kernel
theorem d_Model_drainTo_43 : decode b_Model_drainTo 43 = .ok (.aload_n 0, 1) := by decide +kernel
theorem d_Model_drainTo_44 : decode b_Model_drainTo 44 = .ok (.getfield 28, 3) := by decide +kernel
theorem d_Model_drainTo_47 : decode b_Model_drainTo 47 = .ok (.iconst 4, 1) := by decide +kernel
theorem d_Model_drainTo_48 : decode b_Model_drainTo 48 = .ok (.iload_n 1, 1) := by decide +kernel
theorem d_Model_drainTo_49 : decode b_Model_drainTo 49 = .ok (.imul, 1) := by decide +kernel
theorem d_Model_drainTo_50 : decode b_Model_drainTo 50 = .ok (.iload_n 3, 1) := by decide +kernel
theorem d_Model_drainTo_51 : decode b_Model_drainTo 51 = .ok (.iadd, 1) := by decide +kernel
theorem d_Model_drainTo_52 : decode b_Model_drainTo 52 = .ok (.aload_n 0, 1) := by decide +kernel
theorem d_Model_drainTo_53 : decode b_Model_drainTo 53 = .ok (.getfield 28, 3) := by decide +kernel
theorem d_Model_drainTo_56 : decode b_Model_drainTo 56 = .ok (.iconst 4, 1) := by decide +kernel
theorem d_Model_drainTo_57 : decode b_Model_drainTo 57 = .ok (.iload_n 1, 1) := by decide +kernel
theorem d_Model_drainTo_58 : decode b_Model_drainTo 58 = .ok (.imul, 1) := by decide +kernel
theorem d_Model_drainTo_59 : decode b_Model_drainTo 59 = .ok (.iload_n 3, 1) := by decide +kernel
theorem d_Model_drainTo_60 : decode b_Model_drainTo 60 = .ok (.iadd, 1) := by decide +kernel
theorem d_Model_drainTo_61 : decode b_Model_drainTo 61 = .ok (.iconst 1, 1) := by decide +kernel
theorem d_Model_drainTo_62 : decode b_Model_drainTo 62 = .ok (.iadd, 1) := by decide +kernel
theorem d_Model_drainTo_63 : decode b_Model_drainTo 63 = .ok (.iaload, 1) := by decide +kernel
theorem d_Model_drainTo_64 : decode b_Model_drainTo 64 = .ok (.iastore, 1) := by decide +kernel
theorem d_Model_drainTo_65 : decode b_Model_drainTo 65 = .ok (.aload_n 0, 1) := by decide +kernel
theorem d_Model_drainTo_66 : decode b_Model_drainTo 66 = .ok (.getfield 31, 3) := by decide +kernel
theorem d_Model_drainTo_69 : decode b_Model_drainTo 69 = .ok (.iconst 4, 1) := by decide +kernel
theorem d_Model_drainTo_70 : decode b_Model_drainTo 70 = .ok (.iload_n 1, 1) := by decide +kernel
theorem d_Model_drainTo_71 : decode b_Model_drainTo 71 = .ok (.imul, 1) := by decide +kernel
theorem d_Model_drainTo_72 : decode b_Model_drainTo 72 = .ok (.iload_n 3, 1) := by decide +kernel
theorem d_Model_drainTo_73 : decode b_Model_drainTo 73 = .ok (.iadd, 1) := by decide +kernel
theorem d_Model_drainTo_74 : decode b_Model_drainTo 74 = .ok (.aload_n 0, 1) := by decide +kernel
theorem d_Model_drainTo_75 : decode b_Model_drainTo 75 = .ok (.getfield 31, 3) := by decide +kernel
theorem d_Model_drainTo_78 : decode b_Model_drainTo 78 = .ok (.iconst 4, 1) := by decide +kernel
theorem d_Model_drainTo_79 : decode b_Model_drainTo 79 = .ok (.iload_n 1, 1) := by decide +kernel
theorem d_Model_drainTo_80 : decode b_Model_drainTo 80 = .ok (.imul, 1) := by decide +kernel
theorem d_Model_drainTo_81 : decode b_Model_drainTo 81 = .ok (.iload_n 3, 1) := by decide +kernel
theorem d_Model_drainTo_82 : decode b_Model_drainTo 82 = .ok (.iadd, 1) := by decide +kernel
theorem d_Model_drainTo_83 : decode b_Model_drainTo 83 = .ok (.iconst 1, 1) := by decide +kernel
theorem d_Model_drainTo_84 : decode b_Model_drainTo 84 = .ok (.iadd, 1) := by decide +kernel
theorem d_Model_drainTo_85 : decode b_Model_drainTo 85 = .ok (.iaload, 1) := by decide +kernel
theorem d_Model_drainTo_86 : decode b_Model_drainTo 86 = .ok (.iastore, 1) := by decide +kernel
theorem d_Model_drainTo_87 : decode b_Model_drainTo 87 = .ok (.iinc 3 1, 3) := by decide +kernel
theorem d_Model_drainTo_90 : decode b_Model_drainTo 90 = .ok (.goto (-57), 3) := by decide +kernel
theorem d_Model_drainTo_93 : decode b_Model_drainTo 93 = .ok (.return_, 1) := by decide +kernel
theorem d_Model_put_0 : decode b_Model_put 0 = .ok (.aload_n 0, 1) := by decide +kernel
theorem d_Model_put_1 : decode b_Model_put 1 = .ok (.getfield 22, 3) := by decide +kernel
theorem d_Model_put_4 : decode b_Model_put 4 = .ok (.iconst 4, 1) := by decide +kernel
theorem d_Model_put_5 : decode b_Model_put 5 = .ok (.iload_n 1, 1) := by decide +kernel
theorem d_Model_put_6 : decode b_Model_put 6 = .ok (.imul, 1) := by decide +kernel
theorem d_Model_put_7 : decode b_Model_put 7 = .ok (.iload_n 2, 1) := by decide +kernel
theorem d_Model_put_8 : decode b_Model_put 8 = .ok (.iconst 4, 1) := by decide +kernel
theorem d_Model_put_9 : decode b_Model_put 9 = .ok (.irem, 1) := by decide +kernel
theorem d_Model_put_10 : decode b_Model_put 10 = .ok (.iadd, 1) := by decide +kernel
theorem d_Model_put_11 : decode b_Model_put 11 = .ok (.iload_n 3, 1) := by decide +kernel
theorem d_Model_put_12 : decode b_Model_put 12 = .ok (.iastore, 1) := by decide +kernel
theorem d_Model_put_13 : decode b_Model_put 13 = .ok (.aload_n 0, 1) := by decide +kernel
theorem d_Model_put_14 : decode b_Model_put 14 = .ok (.getfield 16, 3) := by decide +kernel
theorem d_Model_put_17 : decode b_Model_put 17 = .ok (.iload_n 1, 1) := by decide +kernel
theorem d_Model_put_18 : decode b_Model_put 18 = .ok (.iconst 3, 1) := by decide +kernel
theorem d_Model_put_19 : decode b_Model_put 19 = .ok (.iastore, 1) := by decide +kernel
theorem d_Model_put_20 : decode b_Model_put 20 = .ok (.aload_n 0, 1) := by decide +kernel
theorem d_Model_put_21 : decode b_Model_put 21 = .ok (.iload_n 1, 1) := by decide +kernel
theorem d_Model_put_22 : decode b_Model_put 22 = .ok (.invokevirtual 74, 3) := by decide +kernel
theorem d_Model_put_25 : decode b_Model_put 25 = .ok (.return_, 1) := by decide +kernel
theorem d_Model_swap_0 : decode b_Model_swap 0 = .ok (.aload_n 0, 1) := by decide +kernel
theorem d_Model_swap_1 : decode b_Model_swap 1 = .ok (.iload_n 1, 1) := by decide +kernel
theorem d_Model_swap_2 : decode b_Model_swap 2 = .ok (.iload_n 2, 1) := by decide +kernel
theorem d_Model_swap_3 : decode b_Model_swap 3 = .ok (.iload_n 3, 1) := by decide +kernel
theorem d_Model_swap_4 : decode b_Model_swap 4 = .ok (.iconst 0, 1) := by decide +kernel
theorem d_Model_swap_5 : decode b_Model_swap 5 = .ok (.invokevirtual 105, 3) := by decide +kernel
theorem d_Model_swap_8 : decode b_Model_swap 8 = .ok (.ireturn, 1) := by decide +kernel
theorem d_Model_change_0 : decode b_Model_change 0 = .ok (.aload_n 0, 1) := by decide +kernel
theorem d_Model_change_1 : decode b_Model_change 1 = .ok (.iload_n 1, 1) := by decide +kernel
theorem d_Model_change_2 : decode b_Model_change 2 = .ok (.iload_n 2, 1) := by decide +kernel
theorem d_Model_change_3 : decode b_Model_change 3 = .ok (.invokevirtual 77, 3) := by decide +kernel
theorem d_Model_change_6 : decode b_Model_change 6 = .ok (.istore 5, 2) := by decide +kernel
theorem d_Model_change_8 : decode b_Model_change 8 = .ok (.iload 5, 2) := by decide +kernel
theorem d_Model_change_10 : decode b_Model_change 10 = .ok (.ifCond .ge 6, 3) := by decide +kernel
theorem d_Model_change_13 : decode b_Model_change 13 = .ok (.iload 5, 2) := by decide +kernel
theorem d_Model_change_15 : decode b_Model_change 15 = .ok (.ireturn, 1) := by decide +kernel
theorem d_Model_change_16 : decode b_Model_change 16 = .ok (.aload_n 0, 1) := by decide +kernel
theorem d_Model_change_17 : decode b_Model_change 17 = .ok (.getfield 25, 3) := by decide +kernel
theorem d_Model_change_20 : decode b_Model_change 20 = .ok (.iload_n 1, 1) := by decide +kernel
theorem d_Model_change_21 : decode b_Model_change 21 = .ok (.iaload, 1) := by decide +kernel
theorem d_Model_change_22 : decode b_Model_change 22 = .ok (.ifCond .le 6, 3) := by decide +kernel
theorem d_Model_change_25 : decode b_Model_change 25 = .ok (.bipush (-4), 2) := by decide +kernel
theorem d_Model_change_27 : decode b_Model_change 27 = .ok (.ireturn, 1) := by decide +kernel
theorem d_Model_change_28 : decode b_Model_change 28 = .ok (.aload_n 0, 1) := by decide +kernel
theorem d_Model_change_29 : decode b_Model_change 29 = .ok (.iload_n 1, 1) := by decide +kernel
theorem d_Model_change_30 : decode b_Model_change 30 = .ok (.iload_n 2, 1) := by decide +kernel
theorem d_Model_change_31 : decode b_Model_change 31 = .ok (.iconst 4, 1) := by decide +kernel
theorem d_Model_change_32 : decode b_Model_change 32 = .ok (.idiv, 1) := by decide +kernel
theorem d_Model_change_33 : decode b_Model_change 33 = .ok (.invokevirtual 80, 3) := by decide +kernel
theorem d_Model_change_36 : decode b_Model_change 36 = .ok (.istore 6, 2) := by decide +kernel
theorem d_Model_change_38 : decode b_Model_change 38 = .ok (.aload_n 0, 1) := by decide +kernel
theorem d_Model_change_39 : decode b_Model_change 39 = .ok (.iload 6, 2) := by decide +kernel
theorem d_Model_change_41 : decode b_Model_change 41 = .ok (.invokevirtual 94, 3) := by decide +kernel
theorem d_Model_change_44 : decode b_Model_change 44 = .ok (.ifCond .ne 21, 3) := by decide +kernel
theorem d_Model_change_47 : decode b_Model_change 47 = .ok (.aload_n 0, 1) := by decide +kernel
theorem d_Model_change_48 : decode b_Model_change 48 = .ok (.iload_n 1, 1) := by decide +kernel
theorem d_Model_change_49 : decode b_Model_change 49 = .ok (.iload 4, 2) := by decide +kernel
theorem d_Model_change_51 : decode b_Model_change 51 = .ok (.ifCond .eq 7, 3) := by decide +kernel
theorem d_Model_change_54 : decode b_Model_change 54 = .ok (.iconst 4, 1) := by decide +kernel
theorem d_Model_change_55 : decode b_Model_change 55 = .ok (.goto 4, 3) := by decide +kernel
theorem d_Model_change_58 : decode b_Model_change 58 = .ok (.iconst 3, 1) := by decide +kernel
theorem d_Model_change_59 : decode b_Model_change 59 = .ok (.iload_n 2, 1) := by decide +kernel
theorem d_Model_change_60 : decode b_Model_change 60 = .ok (.iload_n 3, 1) := by decide +kernel
theorem d_Model_change_61 : decode b_Model_change 61 = .ok (.invokevirtual 83, 3) := by decide +kernel
theorem d_Model_change_64 : decode b_Model_change 64 = .ok (.ireturn, 1) := by decide +kernel
theorem d_Model_change_65 : decode b_Model_change 65 = .ok (.aload_n 0, 1) := by decide +kernel
theorem d_Model_change_66 : decode b_Model_change 66 = .ok (.iload_n 1, 1) := by decide +kernel
theorem d_Model_change_67 : decode b_Model_change 67 = .ok (.iload 6, 2) := by decide +kernel
theorem d_Model_change_69 : decode b_Model_change 69 = .ok (.iload_n 2, 1) := by decide +kernel
theorem d_Model_change_70 : decode b_Model_change 70 = .ok (.iload_n 3, 1) := by decide +kernel
theorem d_Model_change_71 : decode b_Model_change 71 = .ok (.iload 4, 2) := by decide +kernel
theorem d_Model_change_73 : decode b_Model_change 73 = .ok (.invokevirtual 101, 3) := by decide +kernel
theorem d_Model_change_76 : decode b_Model_change 76 = .ok (.iconst 0, 1) := by decide +kernel
theorem d_Model_change_77 : decode b_Model_change 77 = .ok (.ireturn, 1) := by decide +kernel
theorem d_Model_tradeAt_0 : decode b_Model_tradeAt 0 = .ok (.aload_n 0, 1) := by decide +kernel
theorem d_Model_tradeAt_1 : decode b_Model_tradeAt 1 = .ok (.getfield 34, 3) := by decide +kernel
theorem d_Model_tradeAt_4 : decode b_Model_tradeAt 4 = .ok (.iload_n 1, 1) := by decide +kernel
theorem d_Model_tradeAt_5 : decode b_Model_tradeAt 5 = .ok (.aload_n 0, 1) := by decide +kernel
theorem d_Model_tradeAt_6 : decode b_Model_tradeAt 6 = .ok (.iload_n 2, 1) := by decide +kernel
theorem d_Model_tradeAt_7 : decode b_Model_tradeAt 7 = .ok (.iload_n 3, 1) := by decide +kernel
theorem d_Model_tradeAt_8 : decode b_Model_tradeAt 8 = .ok (.invokevirtual 87, 3) := by decide +kernel
theorem d_Model_tradeAt_11 : decode b_Model_tradeAt 11 = .ok (.iastore, 1) := by decide +kernel
theorem d_Model_tradeAt_12 : decode b_Model_tradeAt 12 = .ok (.aload_n 0, 1) := by decide +kernel
theorem d_Model_tradeAt_13 : decode b_Model_tradeAt 13 = .ok (.iload_n 2, 1) := by decide +kernel
theorem d_Model_tradeAt_14 : decode b_Model_tradeAt 14 = .ok (.iload_n 3, 1) := by decide +kernel
theorem d_Model_tradeAt_15 : decode b_Model_tradeAt 15 = .ok (.iload 5, 2) := by decide +kernel
theorem d_Model_tradeAt_17 : decode b_Model_tradeAt 17 = .ok (.ifCond .eq 15, 3) := by decide +kernel
theorem d_Model_tradeAt_20 : decode b_Model_tradeAt 20 = .ok (.aload_n 0, 1) := by decide +kernel
theorem d_Model_tradeAt_21 : decode b_Model_tradeAt 21 = .ok (.getfield 34, 3) := by decide +kernel
theorem d_Model_tradeAt_24 : decode b_Model_tradeAt 24 = .ok (.iload_n 1, 1) := by decide +kernel
theorem d_Model_tradeAt_25 : decode b_Model_tradeAt 25 = .ok (.iaload, 1) := by decide +kernel
theorem d_Model_tradeAt_26 : decode b_Model_tradeAt 26 = .ok (.iload 4, 2) := by decide +kernel
theorem d_Model_tradeAt_28 : decode b_Model_tradeAt 28 = .ok (.iadd, 1) := by decide +kernel
theorem d_Model_tradeAt_29 : decode b_Model_tradeAt 29 = .ok (.goto 5, 3) := by decide +kernel
theorem d_Model_tradeAt_32 : decode b_Model_tradeAt 32 = .ok (.iload 4, 2) := by decide +kernel
theorem d_Model_tradeAt_34 : decode b_Model_tradeAt 34 = .ok (.invokevirtual 90, 3) := by decide +kernel
theorem d_Model_tradeAt_37 : decode b_Model_tradeAt 37 = .ok (.return_, 1) := by decide +kernel
theorem d_Model_add_0 : decode b_Model_add 0 = .ok (.aload_n 0, 1) := by decide +kernel
theorem d_Model_add_1 : decode b_Model_add 1 = .ok (.iload_n 1, 1) := by decide +kernel
theorem d_Model_add_2 : decode b_Model_add 2 = .ok (.iload_n 2, 1) := by decide +kernel
theorem d_Model_add_3 : decode b_Model_add 3 = .ok (.iload_n 3, 1) := by decide +kernel
theorem d_Model_add_4 : decode b_Model_add 4 = .ok (.iconst 1, 1) := by decide +kernel
theorem d_Model_add_5 : decode b_Model_add 5 = .ok (.invokevirtual 105, 3) := by decide +kernel
theorem d_Model_add_8 : decode b_Model_add 8 = .ok (.ireturn, 1) := by decide +kernel
theorem d_Model_bus_0 : decode b_Model_bus 0 = .ok (.iconst 0, 1) := by decide +kernel
theorem d_Model_bus_1 : decode b_Model_bus 1 = .ok (.istore_n 1, 1) := by decide +kernel
theorem d_Model_bus_2 : decode b_Model_bus 2 = .ok (.iload_n 1, 1) := by decide +kernel
theorem d_Model_bus_3 : decode b_Model_bus 3 = .ok (.aload_n 0, 1) := by decide +kernel
theorem d_Model_bus_4 : decode b_Model_bus 4 = .ok (.getfield 49, 3) := by decide +kernel
theorem d_Model_bus_7 : decode b_Model_bus 7 = .ok (.if_icmp .ge 99, 3) := by decide +kernel
theorem d_Model_bus_10 : decode b_Model_bus 10 = .ok (.aload_n 0, 1) := by decide +kernel
theorem d_Model_bus_11 : decode b_Model_bus 11 = .ok (.getfield 116, 3) := by decide +kernel
theorem d_Model_bus_14 : decode b_Model_bus 14 = .ok (.iload_n 1, 1) := by decide +kernel
theorem d_Model_bus_15 : decode b_Model_bus 15 = .ok (.iadd, 1) := by decide +kernel
theorem d_Model_bus_16 : decode b_Model_bus 16 = .ok (.aload_n 0, 1) := by decide +kernel
theorem d_Model_bus_17 : decode b_Model_bus 17 = .ok (.getfield 49, 3) := by decide +kernel
theorem d_Model_bus_20 : decode b_Model_bus 20 = .ok (.irem, 1) := by decide +kernel
theorem d_Model_bus_21 : decode b_Model_bus 21 = .ok (.istore_n 2, 1) := by decide +kernel
theorem d_Model_bus_22 : decode b_Model_bus 22 = .ok (.aload_n 0, 1) := by decide +kernel
theorem d_Model_bus_23 : decode b_Model_bus 23 = .ok (.getfield 37, 3) := by decide +kernel
theorem d_Model_bus_26 : decode b_Model_bus 26 = .ok (.iload_n 2, 1) := by decide +kernel
theorem d_Model_bus_27 : decode b_Model_bus 27 = .ok (.iaload, 1) := by decide +kernel
theorem d_Model_bus_28 : decode b_Model_bus 28 = .ok (.ifCond .le 72, 3) := by decide +kernel
theorem d_Model_bus_31 : decode b_Model_bus 31 = .ok (.aload_n 0, 1) := by decide +kernel
theorem d_Model_bus_32 : decode b_Model_bus 32 = .ok (.getfield 37, 3) := by decide +kernel
theorem d_Model_bus_35 : decode b_Model_bus 35 = .ok (.iload_n 2, 1) := by decide +kernel
theorem d_Model_bus_36 : decode b_Model_bus 36 = .ok (.iaload, 1) := by decide +kernel
theorem d_Model_bus_37 : decode b_Model_bus 37 = .ok (.istore_n 3, 1) := by decide +kernel
theorem d_Model_bus_38 : decode b_Model_bus 38 = .ok (.aload_n 0, 1) := by decide +kernel
theorem d_Model_bus_39 : decode b_Model_bus 39 = .ok (.getfield 37, 3) := by decide +kernel
theorem d_Model_bus_42 : decode b_Model_bus 42 = .ok (.iload_n 2, 1) := by decide +kernel
theorem d_Model_bus_43 : decode b_Model_bus 43 = .ok (.iconst 0, 1) := by decide +kernel
theorem d_Model_bus_44 : decode b_Model_bus 44 = .ok (.iastore, 1) := by decide +kernel
theorem d_Model_bus_45 : decode b_Model_bus 45 = .ok (.aload_n 0, 1) := by decide +kernel
theorem d_Model_bus_46 : decode b_Model_bus 46 = .ok (.getfield 46, 3) := by decide +kernel
theorem d_Model_bus_49 : decode b_Model_bus 49 = .ok (.iconst 0, 1) := by decide +kernel
theorem d_Model_bus_50 : decode b_Model_bus 50 = .ok (.dup2, 1) := by decide +kernel
theorem d_Model_bus_51 : decode b_Model_bus 51 = .ok (.iaload, 1) := by decide +kernel
theorem d_Model_bus_52 : decode b_Model_bus 52 = .ok (.iconst 1, 1) := by decide +kernel
theorem d_Model_bus_53 : decode b_Model_bus 53 = .ok (.iadd, 1) := by decide +kernel
theorem d_Model_bus_54 : decode b_Model_bus 54 = .ok (.iastore, 1) := by decide +kernel
theorem d_Model_bus_55 : decode b_Model_bus 55 = .ok (.aload_n 0, 1) := by decide +kernel
theorem d_Model_bus_56 : decode b_Model_bus 56 = .ok (.iload_n 2, 1) := by decide +kernel
theorem d_Model_bus_57 : decode b_Model_bus 57 = .ok (.iconst 1, 1) := by decide +kernel
theorem d_Model_bus_58 : decode b_Model_bus 58 = .ok (.iadd, 1) := by decide +kernel
theorem d_Model_bus_59 : decode b_Model_bus 59 = .ok (.aload_n 0, 1) := by decide +kernel
theorem d_Model_bus_60 : decode b_Model_bus 60 = .ok (.getfield 49, 3) := by decide +kernel
theorem d_Model_bus_63 : decode b_Model_bus 63 = .ok (.irem, 1) := by decide +kernel
theorem d_Model_bus_64 : decode b_Model_bus 64 = .ok (.putfield 116, 3) := by decide +kernel
theorem d_Model_bus_67 : decode b_Model_bus 67 = .ok (.iload_n 3, 1) := by decide +kernel
theorem d_Model_bus_68 : decode b_Model_bus 68 = .ok (.iconst 1, 1) := by decide +kernel
theorem d_Model_bus_69 : decode b_Model_bus 69 = .ok (.if_icmp .ne 17, 3) := by decide +kernel
theorem d_Model_bus_72 : decode b_Model_bus 72 = .ok (.aload_n 0, 1) := by decide +kernel
theorem d_Model_bus_73 : decode b_Model_bus 73 = .ok (.iload_n 2, 1) := by decide +kernel
theorem d_Model_bus_74 : decode b_Model_bus 74 = .ok (.aload_n 0, 1) := by decide +kernel
theorem d_Model_bus_75 : decode b_Model_bus 75 = .ok (.getfield 40, 3) := by decide +kernel
theorem d_Model_bus_78 : decode b_Model_bus 78 = .ok (.iload_n 2, 1) := by decide +kernel
theorem d_Model_bus_79 : decode b_Model_bus 79 = .ok (.iaload, 1) := by decide +kernel
theorem d_Model_bus_80 : decode b_Model_bus 80 = .ok (.invokevirtual 119, 3) := by decide +kernel
theorem d_Model_bus_83 : decode b_Model_bus 83 = .ok (.goto 15, 3) := by decide +kernel
theorem d_Model_bus_86 : decode b_Model_bus 86 = .ok (.aload_n 0, 1) := by decide +kernel
theorem d_Model_bus_87 : decode b_Model_bus 87 = .ok (.iload_n 2, 1) := by decide +kernel
theorem d_Model_bus_88 : decode b_Model_bus 88 = .ok (.iload_n 3, 1) := by decide +kernel
theorem d_Model_bus_89 : decode b_Model_bus 89 = .ok (.aload_n 0, 1) := by decide +kernel
theorem d_Model_bus_90 : decode b_Model_bus 90 = .ok (.getfield 40, 3) := by decide +kernel
theorem d_Model_bus_93 : decode b_Model_bus 93 = .ok (.iload_n 2, 1) := by decide +kernel
theorem d_Model_bus_94 : decode b_Model_bus 94 = .ok (.iaload, 1) := by decide +kernel
theorem d_Model_bus_95 : decode b_Model_bus 95 = .ok (.invokevirtual 122, 3) := by decide +kernel
theorem d_Model_bus_98 : decode b_Model_bus 98 = .ok (.iload_n 2, 1) := by decide +kernel
theorem d_Model_bus_99 : decode b_Model_bus 99 = .ok (.ireturn, 1) := by decide +kernel
theorem d_Model_bus_100 : decode b_Model_bus 100 = .ok (.iinc 1 1, 3) := by decide +kernel
theorem d_Model_bus_103 : decode b_Model_bus 103 = .ok (.goto (-101), 3) := by decide +kernel
theorem d_Model_bus_106 : decode b_Model_bus 106 = .ok (.bipush (-5), 2) := by decide +kernel
theorem d_Model_bus_108 : decode b_Model_bus 108 = .ok (.ireturn, 1) := by decide +kernel
theorem d_Model_serveRead_0 : decode b_Model_serveRead 0 = .ok (.aload_n 0, 1) := by decide +kernel
theorem d_Model_serveRead_1 : decode b_Model_serveRead 1 = .ok (.iload_n 1, 1) := by decide +kernel
theorem d_Model_serveRead_2 : decode b_Model_serveRead 2 = .ok (.iload_n 2, 1) := by decide +kernel
theorem d_Model_serveRead_3 : decode b_Model_serveRead 3 = .ok (.iconst 4, 1) := by decide +kernel
theorem d_Model_serveRead_4 : decode b_Model_serveRead 4 = .ok (.idiv, 1) := by decide +kernel
theorem d_Model_serveRead_5 : decode b_Model_serveRead 5 = .ok (.iconst 1, 1) := by decide +kernel
theorem d_Model_serveRead_6 : decode b_Model_serveRead 6 = .ok (.invokevirtual 109, 3) := by decide +kernel
theorem d_Model_serveRead_9 : decode b_Model_serveRead 9 = .ok (.istore_n 3, 1) := by decide +kernel
theorem d_Model_serveRead_10 : decode b_Model_serveRead 10 = .ok (.aload_n 0, 1) := by decide +kernel
theorem d_Model_serveRead_11 : decode b_Model_serveRead 11 = .ok (.iload_n 1, 1) := by decide +kernel
theorem d_Model_serveRead_12 : decode b_Model_serveRead 12 = .ok (.iload_n 2, 1) := by decide +kernel
theorem d_Model_serveRead_13 : decode b_Model_serveRead 13 = .ok (.iconst 4, 1) := by decide +kernel
theorem d_Model_serveRead_14 : decode b_Model_serveRead 14 = .ok (.idiv, 1) := by decide +kernel
theorem d_Model_serveRead_15 : decode b_Model_serveRead 15 = .ok (.invokevirtual 113, 3) := by decide +kernel
theorem d_Model_serveRead_18 : decode b_Model_serveRead 18 = .ok (.istore 4, 2) := by decide +kernel
theorem d_Model_serveRead_20 : decode b_Model_serveRead 20 = .ok (.aload_n 0, 1) := by decide +kernel
theorem d_Model_serveRead_21 : decode b_Model_serveRead 21 = .ok (.getfield 16, 3) := by decide +kernel
theorem d_Model_serveRead_24 : decode b_Model_serveRead 24 = .ok (.iload 4, 2) := by decide +kernel
theorem d_Model_serveRead_26 : decode b_Model_serveRead 26 = .ok (.iload_n 3, 1) := by decide +kernel
theorem d_Model_serveRead_27 : decode b_Model_serveRead 27 = .ok (.ifCond .eq 7, 3) := by decide +kernel
theorem d_Model_serveRead_30 : decode b_Model_serveRead 30 = .ok (.iconst 1, 1) := by decide +kernel
theorem d_Model_serveRead_31 : decode b_Model_serveRead 31 = .ok (.goto 4, 3) := by decide +kernel
theorem d_Model_serveRead_34 : decode b_Model_serveRead 34 = .ok (.iconst 2, 1) := by decide +kernel
theorem d_Model_serveRead_35 : decode b_Model_serveRead 35 = .ok (.iastore, 1) := by decide +kernel
theorem d_Model_serveRead_36 : decode b_Model_serveRead 36 = .ok (.aload_n 0, 1) := by decide +kernel
theorem d_Model_serveRead_37 : decode b_Model_serveRead 37 = .ok (.getfield 34, 3) := by decide +kernel
theorem d_Model_serveRead_40 : decode b_Model_serveRead 40 = .ok (.iload_n 1, 1) := by decide +kernel
theorem d_Model_serveRead_41 : decode b_Model_serveRead 41 = .ok (.aload_n 0, 1) := by decide +kernel
theorem d_Model_serveRead_42 : decode b_Model_serveRead 42 = .ok (.iload 4, 2) := by decide +kernel
theorem d_Model_serveRead_44 : decode b_Model_serveRead 44 = .ok (.iload_n 2, 1) := by decide +kernel
theorem d_Model_serveRead_45 : decode b_Model_serveRead 45 = .ok (.invokevirtual 87, 3) := by decide +kernel
theorem d_Model_serveRead_48 : decode b_Model_serveRead 48 = .ok (.iastore, 1) := by decide +kernel
theorem d_Model_serveRead_49 : decode b_Model_serveRead 49 = .ok (.return_, 1) := by decide +kernel
theorem d_Model_snoop_0 : decode b_Model_snoop 0 = .ok (.iconst 0, 1) := by decide +kernel
theorem d_Model_snoop_1 : decode b_Model_snoop 1 = .ok (.istore 4, 2) := by decide +kernel
theorem d_Model_snoop_3 : decode b_Model_snoop 3 = .ok (.iconst 0, 1) := by decide +kernel
theorem d_Model_snoop_4 : decode b_Model_snoop 4 = .ok (.istore 5, 2) := by decide +kernel
theorem d_Model_snoop_6 : decode b_Model_snoop 6 = .ok (.iload 5, 2) := by decide +kernel
theorem d_Model_snoop_8 : decode b_Model_snoop 8 = .ok (.aload_n 0, 1) := by decide +kernel
theorem d_Model_snoop_9 : decode b_Model_snoop 9 = .ok (.getfield 49, 3) := by decide +kernel
theorem d_Model_snoop_12 : decode b_Model_snoop 12 = .ok (.if_icmp .ge 87, 3) := by decide +kernel
theorem d_Model_snoop_15 : decode b_Model_snoop 15 = .ok (.iload 5, 2) := by decide +kernel
theorem d_Model_snoop_17 : decode b_Model_snoop 17 = .ok (.iload_n 1, 1) := by decide +kernel
theorem d_Model_snoop_18 : decode b_Model_snoop 18 = .ok (.if_icmp .ne 7, 3) := by decide +kernel
theorem d_Model_snoop_21 : decode b_Model_snoop 21 = .ok (.iconst (-1), 1) := by decide +kernel
theorem d_Model_snoop_22 : decode b_Model_snoop 22 = .ok (.goto 10, 3) := by decide +kernel
theorem d_Model_snoop_25 : decode b_Model_snoop 25 = .ok (.aload_n 0, 1) := by decide +kernel
theorem d_Model_snoop_26 : decode b_Model_snoop 26 = .ok (.iload 5, 2) := by decide +kernel
theorem d_Model_snoop_28 : decode b_Model_snoop 28 = .ok (.iload_n 2, 1) := by decide +kernel
theorem d_Model_snoop_29 : decode b_Model_snoop 29 = .ok (.invokevirtual 80, 3) := by decide +kernel
theorem d_Model_snoop_32 : decode b_Model_snoop 32 = .ok (.istore 6, 2) := by decide +kernel
theorem d_Model_snoop_34 : decode b_Model_snoop 34 = .ok (.iload 6, 2) := by decide +kernel
theorem d_Model_snoop_36 : decode b_Model_snoop 36 = .ok (.ifCond .lt 57, 3) := by decide +kernel
theorem d_Model_snoop_39 : decode b_Model_snoop 39 = .ok (.iconst 1, 1) := by decide +kernel
theorem d_Model_snoop_40 : decode b_Model_snoop 40 = .ok (.istore 4, 2) := by decide +kernel
theorem d_Model_snoop_42 : decode b_Model_snoop 42 = .ok (.aload_n 0, 1) := by decide +kernel
theorem d_Model_snoop_43 : decode b_Model_snoop 43 = .ok (.getfield 16, 3) := by decide +kernel
theorem d_Model_snoop_46 : decode b_Model_snoop 46 = .ok (.iload 6, 2) := by decide +kernel
theorem d_Model_snoop_48 : decode b_Model_snoop 48 = .ok (.iaload, 1) := by decide +kernel
theorem d_Model_snoop_49 : decode b_Model_snoop 49 = .ok (.iconst 3, 1) := by decide +kernel
theorem d_Model_snoop_50 : decode b_Model_snoop 50 = .ok (.if_icmp .ne 9, 3) := by decide +kernel
theorem d_Model_snoop_53 : decode b_Model_snoop 53 = .ok (.aload_n 0, 1) := by decide +kernel
theorem d_Model_snoop_54 : decode b_Model_snoop 54 = .ok (.iload 6, 2) := by decide +kernel
theorem d_Model_snoop_56 : decode b_Model_snoop 56 = .ok (.invokevirtual 70, 3) := by decide +kernel
theorem d_Model_snoop_59 : decode b_Model_snoop 59 = .ok (.aload_n 0, 1) := by decide +kernel
theorem d_Model_snoop_60 : decode b_Model_snoop 60 = .ok (.getfield 16, 3) := by decide +kernel
theorem d_Model_snoop_63 : decode b_Model_snoop 63 = .ok (.iload 6, 2) := by decide +kernel
theorem d_Model_snoop_65 : decode b_Model_snoop 65 = .ok (.iload_n 3, 1) := by decide +kernel
theorem d_Model_snoop_66 : decode b_Model_snoop 66 = .ok (.ifCond .eq 7, 3) := by decide +kernel
theorem d_Model_snoop_69 : decode b_Model_snoop 69 = .ok (.iconst 1, 1) := by decide +kernel
theorem d_Model_snoop_70 : decode b_Model_snoop 70 = .ok (.goto 4, 3) := by decide +kernel
theorem d_Model_snoop_73 : decode b_Model_snoop 73 = .ok (.iconst 0, 1) := by decide +kernel
theorem d_Model_snoop_74 : decode b_Model_snoop 74 = .ok (.iastore, 1) := by decide +kernel
theorem d_Model_snoop_75 : decode b_Model_snoop 75 = .ok (.aload_n 0, 1) := by decide +kernel
theorem d_Model_snoop_76 : decode b_Model_snoop 76 = .ok (.getfield 46, 3) := by decide +kernel
theorem d_Model_snoop_79 : decode b_Model_snoop 79 = .ok (.iconst 2, 1) := by decide +kernel
theorem d_Model_snoop_80 : decode b_Model_snoop 80 = .ok (.dup2, 1) := by decide +kernel
theorem d_Model_snoop_81 : decode b_Model_snoop 81 = .ok (.iaload, 1) := by decide +kernel
theorem d_Model_snoop_82 : decode b_Model_snoop 82 = .ok (.iload_n 3, 1) := by decide +kernel
theorem d_Model_snoop_83 : decode b_Model_snoop 83 = .ok (.ifCond .eq 7, 3) := by decide +kernel
theorem d_Model_snoop_86 : decode b_Model_snoop 86 = .ok (.iconst 0, 1) := by decide +kernel
theorem d_Model_snoop_87 : decode b_Model_snoop 87 = .ok (.goto 4, 3) := by decide +kernel
theorem d_Model_snoop_90 : decode b_Model_snoop 90 = .ok (.iconst 1, 1) := by decide +kernel
theorem d_Model_snoop_91 : decode b_Model_snoop 91 = .ok (.iadd, 1) := by decide +kernel
theorem d_Model_snoop_92 : decode b_Model_snoop 92 = .ok (.iastore, 1) := by decide +kernel
theorem d_Model_snoop_93 : decode b_Model_snoop 93 = .ok (.iinc 5 1, 3) := by decide +kernel
theorem d_Model_snoop_96 : decode b_Model_snoop 96 = .ok (.goto (-90), 3) := by decide +kernel
theorem d_Model_snoop_99 : decode b_Model_snoop 99 = .ok (.iload 4, 2) := by decide +kernel
theorem d_Model_snoop_101 : decode b_Model_snoop 101 = .ok (.ireturn, 1) := by decide +kernel
theorem d_Model_writeBack_0 : decode b_Model_writeBack 0 = .ok (.iconst 0, 1) := by decide +kernel
theorem d_Model_writeBack_1 : decode b_Model_writeBack 1 = .ok (.istore_n 2, 1) := by decide +kernel
theorem d_Model_writeBack_2 : decode b_Model_writeBack 2 = .ok (.iload_n 2, 1) := by decide +kernel
theorem d_Model_writeBack_3 : decode b_Model_writeBack 3 = .ok (.iconst 4, 1) := by decide +kernel
theorem d_Model_writeBack_4 : decode b_Model_writeBack 4 = .ok (.if_icmp .ge 34, 3) := by decide +kernel
theorem d_Model_writeBack_7 : decode b_Model_writeBack 7 = .ok (.aload_n 0, 1) := by decide +kernel
theorem d_Model_writeBack_8 : decode b_Model_writeBack 8 = .ok (.getfield 7, 3) := by decide +kernel
theorem d_Model_writeBack_11 : decode b_Model_writeBack 11 = .ok (.iconst 4, 1) := by decide +kernel
theorem d_Model_writeBack_12 : decode b_Model_writeBack 12 = .ok (.aload_n 0, 1) := by decide +kernel
theorem d_Model_writeBack_13 : decode b_Model_writeBack 13 = .ok (.getfield 13, 3) := by decide +kernel
theorem d_Model_writeBack_16 : decode b_Model_writeBack 16 = .ok (.iload_n 1, 1) := by decide +kernel
theorem d_Model_writeBack_17 : decode b_Model_writeBack 17 = .ok (.iaload, 1) := by decide +kernel
theorem d_Model_writeBack_18 : decode b_Model_writeBack 18 = .ok (.imul, 1) := by decide +kernel
theorem d_Model_writeBack_19 : decode b_Model_writeBack 19 = .ok (.iload_n 2, 1) := by decide +kernel
theorem d_Model_writeBack_20 : decode b_Model_writeBack 20 = .ok (.iadd, 1) := by decide +kernel
theorem d_Model_writeBack_21 : decode b_Model_writeBack 21 = .ok (.aload_n 0, 1) := by decide +kernel
theorem d_Model_writeBack_22 : decode b_Model_writeBack 22 = .ok (.getfield 22, 3) := by decide +kernel
theorem d_Model_writeBack_25 : decode b_Model_writeBack 25 = .ok (.iconst 4, 1) := by decide +kernel
theorem d_Model_writeBack_26 : decode b_Model_writeBack 26 = .ok (.iload_n 1, 1) := by decide +kernel
theorem d_Model_writeBack_27 : decode b_Model_writeBack 27 = .ok (.imul, 1) := by decide +kernel
theorem d_Model_writeBack_28 : decode b_Model_writeBack 28 = .ok (.iload_n 2, 1) := by decide +kernel
theorem d_Model_writeBack_29 : decode b_Model_writeBack 29 = .ok (.iadd, 1) := by decide +kernel
theorem d_Model_writeBack_30 : decode b_Model_writeBack 30 = .ok (.iaload, 1) := by decide +kernel
theorem d_Model_writeBack_31 : decode b_Model_writeBack 31 = .ok (.iastore, 1) := by decide +kernel
theorem d_Model_writeBack_32 : decode b_Model_writeBack 32 = .ok (.iinc 2 1, 3) := by decide +kernel
theorem d_Model_writeBack_35 : decode b_Model_writeBack 35 = .ok (.goto (-33), 3) := by decide +kernel
theorem d_Model_writeBack_38 : decode b_Model_writeBack 38 = .ok (.aload_n 0, 1) := by decide +kernel
theorem d_Model_writeBack_39 : decode b_Model_writeBack 39 = .ok (.getfield 46, 3) := by decide +kernel
theorem d_Model_writeBack_42 : decode b_Model_writeBack 42 = .ok (.iconst 1, 1) := by decide +kernel
theorem d_Model_writeBack_43 : decode b_Model_writeBack 43 = .ok (.dup2, 1) := by decide +kernel
theorem d_Model_writeBack_44 : decode b_Model_writeBack 44 = .ok (.iaload, 1) := by decide +kernel
theorem d_Model_writeBack_45 : decode b_Model_writeBack 45 = .ok (.iconst 1, 1) := by decide +kernel
theorem d_Model_writeBack_46 : decode b_Model_writeBack 46 = .ok (.iadd, 1) := by decide +kernel
theorem d_Model_writeBack_47 : decode b_Model_writeBack 47 = .ok (.iastore, 1) := by decide +kernel
theorem d_Model_writeBack_48 : decode b_Model_writeBack 48 = .ok (.return_, 1) := by decide +kernel
theorem d_Model_fill_0 : decode b_Model_fill 0 = .ok (.aload_n 0, 1) := by decide +kernel
theorem d_Model_fill_1 : decode b_Model_fill 1 = .ok (.iload_n 1, 1) := by decide +kernel
theorem d_Model_fill_2 : decode b_Model_fill 2 = .ok (.iload_n 2, 1) := by decide +kernel
theorem d_Model_fill_3 : decode b_Model_fill 3 = .ok (.iconst 2, 1) := by decide +kernel
theorem d_Model_fill_4 : decode b_Model_fill 4 = .ok (.irem, 1) := by decide +kernel
theorem d_Model_fill_5 : decode b_Model_fill 5 = .ok (.invokevirtual 66, 3) := by decide +kernel
theorem d_Model_fill_8 : decode b_Model_fill 8 = .ok (.istore_n 3, 1) := by decide +kernel
theorem d_Model_fill_9 : decode b_Model_fill 9 = .ok (.aload_n 0, 1) := by decide +kernel
theorem d_Model_fill_10 : decode b_Model_fill 10 = .ok (.getfield 16, 3) := by decide +kernel
theorem d_Model_fill_13 : decode b_Model_fill 13 = .ok (.iload_n 3, 1) := by decide +kernel
theorem d_Model_fill_14 : decode b_Model_fill 14 = .ok (.iaload, 1) := by decide +kernel
theorem d_Model_fill_15 : decode b_Model_fill 15 = .ok (.iconst 3, 1) := by decide +kernel
theorem d_Model_fill_16 : decode b_Model_fill 16 = .ok (.if_icmp .ne 8, 3) := by decide +kernel
theorem d_Model_fill_19 : decode b_Model_fill 19 = .ok (.aload_n 0, 1) := by decide +kernel
theorem d_Model_fill_20 : decode b_Model_fill 20 = .ok (.iload_n 3, 1) := by decide +kernel
theorem d_Model_fill_21 : decode b_Model_fill 21 = .ok (.invokevirtual 70, 3) := by decide +kernel
theorem d_Model_fill_24 : decode b_Model_fill 24 = .ok (.aload_n 0, 1) := by decide +kernel
theorem d_Model_fill_25 : decode b_Model_fill 25 = .ok (.getfield 13, 3) := by decide +kernel
theorem d_Model_fill_28 : decode b_Model_fill 28 = .ok (.iload_n 3, 1) := by decide +kernel
theorem d_Model_fill_29 : decode b_Model_fill 29 = .ok (.iload_n 2, 1) := by decide +kernel
theorem d_Model_fill_30 : decode b_Model_fill 30 = .ok (.iastore, 1) := by decide +kernel
theorem d_Model_fill_31 : decode b_Model_fill 31 = .ok (.iconst 0, 1) := by decide +kernel
theorem d_Model_fill_32 : decode b_Model_fill 32 = .ok (.istore 4, 2) := by decide +kernel
theorem d_Model_fill_34 : decode b_Model_fill 34 = .ok (.iload 4, 2) := by decide +kernel
theorem d_Model_fill_36 : decode b_Model_fill 36 = .ok (.iconst 4, 1) := by decide +kernel
theorem d_Model_fill_37 : decode b_Model_fill 37 = .ok (.if_icmp .ge 31, 3) := by decide +kernel
theorem d_Model_fill_40 : decode b_Model_fill 40 = .ok (.aload_n 0, 1) := by decide +kernel
theorem d_Model_fill_41 : decode b_Model_fill 41 = .ok (.getfield 22, 3) := by decide +kernel
theorem d_Model_fill_44 : decode b_Model_fill 44 = .ok (.iconst 4, 1) := by decide +kernel
theorem d_Model_fill_45 : decode b_Model_fill 45 = .ok (.iload_n 3, 1) := by decide +kernel
theorem d_Model_fill_46 : decode b_Model_fill 46 = .ok (.imul, 1) := by decide +kernel
theorem d_Model_fill_47 : decode b_Model_fill 47 = .ok (.iload 4, 2) := by decide +kernel
theorem d_Model_fill_49 : decode b_Model_fill 49 = .ok (.iadd, 1) := by decide +kernel
theorem d_Model_fill_50 : decode b_Model_fill 50 = .ok (.aload_n 0, 1) := by decide +kernel
theorem d_Model_fill_51 : decode b_Model_fill 51 = .ok (.getfield 7, 3) := by decide +kernel
theorem d_Model_fill_54 : decode b_Model_fill 54 = .ok (.iconst 4, 1) := by decide +kernel
theorem d_Model_fill_55 : decode b_Model_fill 55 = .ok (.iload_n 2, 1) := by decide +kernel
theorem d_Model_fill_56 : decode b_Model_fill 56 = .ok (.imul, 1) := by decide +kernel
theorem d_Model_fill_57 : decode b_Model_fill 57 = .ok (.iload 4, 2) := by decide +kernel
theorem d_Model_fill_59 : decode b_Model_fill 59 = .ok (.iadd, 1) := by decide +kernel
theorem d_Model_fill_60 : decode b_Model_fill 60 = .ok (.iaload, 1) := by decide +kernel
theorem d_Model_fill_61 : decode b_Model_fill 61 = .ok (.iastore, 1) := by decide +kernel
theorem d_Model_fill_62 : decode b_Model_fill 62 = .ok (.iinc 4 1, 3) := by decide +kernel
theorem d_Model_fill_65 : decode b_Model_fill 65 = .ok (.goto (-31), 3) := by decide +kernel
theorem d_Model_fill_68 : decode b_Model_fill 68 = .ok (.aload_n 0, 1) := by decide +kernel
theorem d_Model_fill_69 : decode b_Model_fill 69 = .ok (.iload_n 3, 1) := by decide +kernel
theorem d_Model_fill_70 : decode b_Model_fill 70 = .ok (.invokevirtual 74, 3) := by decide +kernel
theorem d_Model_fill_73 : decode b_Model_fill 73 = .ok (.iload_n 3, 1) := by decide +kernel
theorem d_Model_fill_74 : decode b_Model_fill 74 = .ok (.ireturn, 1) := by decide +kernel
theorem d_Model_roomIn_0 : decode b_Model_roomIn 0 = .ok (.bipush 6, 2) := by decide +kernel
theorem d_Model_roomIn_2 : decode b_Model_roomIn 2 = .ok (.iload_n 1, 1) := by decide +kernel
theorem d_Model_roomIn_3 : decode b_Model_roomIn 3 = .ok (.imul, 1) := by decide +kernel
theorem d_Model_roomIn_4 : decode b_Model_roomIn 4 = .ok (.iconst 3, 1) := by decide +kernel
theorem d_Model_roomIn_5 : decode b_Model_roomIn 5 = .ok (.iload_n 2, 1) := by decide +kernel
theorem d_Model_roomIn_6 : decode b_Model_roomIn 6 = .ok (.imul, 1) := by decide +kernel
theorem d_Model_roomIn_7 : decode b_Model_roomIn 7 = .ok (.iadd, 1) := by decide +kernel
theorem d_Model_roomIn_8 : decode b_Model_roomIn 8 = .ok (.istore_n 3, 1) := by decide +kernel
theorem d_Model_roomIn_9 : decode b_Model_roomIn 9 = .ok (.iload_n 3, 1) := by decide +kernel
theorem d_Model_roomIn_10 : decode b_Model_roomIn 10 = .ok (.istore 4, 2) := by decide +kernel
theorem d_Model_roomIn_12 : decode b_Model_roomIn 12 = .ok (.iload_n 3, 1) := by decide +kernel
theorem d_Model_roomIn_13 : decode b_Model_roomIn 13 = .ok (.iconst 1, 1) := by decide +kernel
theorem d_Model_roomIn_14 : decode b_Model_roomIn 14 = .ok (.iadd, 1) := by decide +kernel
theorem d_Model_roomIn_15 : decode b_Model_roomIn 15 = .ok (.istore 5, 2) := by decide +kernel
theorem d_Model_roomIn_17 : decode b_Model_roomIn 17 = .ok (.iload 5, 2) := by decide +kernel
theorem d_Model_roomIn_19 : decode b_Model_roomIn 19 = .ok (.iload_n 3, 1) := by decide +kernel
theorem d_Model_roomIn_20 : decode b_Model_roomIn 20 = .ok (.aload_n 0, 1) := by decide +kernel
theorem d_Model_roomIn_21 : decode b_Model_roomIn 21 = .ok (.getfield 53, 3) := by decide +kernel
theorem d_Model_roomIn_24 : decode b_Model_roomIn 24 = .ok (.iadd, 1) := by decide +kernel
theorem d_Model_roomIn_25 : decode b_Model_roomIn 25 = .ok (.if_icmp .ge 67, 3) := by decide +kernel
theorem d_Model_roomIn_28 : decode b_Model_roomIn 28 = .ok (.aload_n 0, 1) := by decide +kernel
theorem d_Model_roomIn_29 : decode b_Model_roomIn 29 = .ok (.getfield 16, 3) := by decide +kernel
theorem d_Model_roomIn_32 : decode b_Model_roomIn 32 = .ok (.iload 4, 2) := by decide +kernel
theorem d_Model_roomIn_34 : decode b_Model_roomIn 34 = .ok (.iaload, 1) := by decide +kernel
theorem d_Model_roomIn_35 : decode b_Model_roomIn 35 = .ok (.ifCond .eq 34, 3) := by decide +kernel
theorem d_Model_roomIn_38 : decode b_Model_roomIn 38 = .ok (.aload_n 0, 1) := by decide +kernel
theorem d_Model_roomIn_39 : decode b_Model_roomIn 39 = .ok (.getfield 16, 3) := by decide +kernel
theorem d_Model_roomIn_42 : decode b_Model_roomIn 42 = .ok (.iload 5, 2) := by decide +kernel
theorem d_Model_roomIn_44 : decode b_Model_roomIn 44 = .ok (.iaload, 1) := by decide +kernel
theorem d_Model_roomIn_45 : decode b_Model_roomIn 45 = .ok (.ifCond .eq 20, 3) := by decide +kernel
theorem d_Model_roomIn_48 : decode b_Model_roomIn 48 = .ok (.aload_n 0, 1) := by decide +kernel
theorem d_Model_roomIn_49 : decode b_Model_roomIn 49 = .ok (.getfield 19, 3) := by decide +kernel
theorem d_Model_roomIn_52 : decode b_Model_roomIn 52 = .ok (.iload 5, 2) := by decide +kernel
theorem d_Model_roomIn_54 : decode b_Model_roomIn 54 = .ok (.iaload, 1) := by decide +kernel
theorem d_Model_roomIn_55 : decode b_Model_roomIn 55 = .ok (.aload_n 0, 1) := by decide +kernel
theorem d_Model_roomIn_56 : decode b_Model_roomIn 56 = .ok (.getfield 19, 3) := by decide +kernel
theorem d_Model_roomIn_59 : decode b_Model_roomIn 59 = .ok (.iload 4, 2) := by decide +kernel
theorem d_Model_roomIn_61 : decode b_Model_roomIn 61 = .ok (.iaload, 1) := by decide +kernel
theorem d_Model_roomIn_62 : decode b_Model_roomIn 62 = .ok (.if_icmp .ge 7, 3) := by decide +kernel
theorem d_Model_roomIn_65 : decode b_Model_roomIn 65 = .ok (.iconst 1, 1) := by decide +kernel
theorem d_Model_roomIn_66 : decode b_Model_roomIn 66 = .ok (.goto 4, 3) := by decide +kernel
theorem d_Model_roomIn_69 : decode b_Model_roomIn 69 = .ok (.iconst 0, 1) := by decide +kernel
theorem d_Model_roomIn_70 : decode b_Model_roomIn 70 = .ok (.istore 6, 2) := by decide +kernel
theorem d_Model_roomIn_72 : decode b_Model_roomIn 72 = .ok (.iload 6, 2) := by decide +kernel
theorem d_Model_roomIn_74 : decode b_Model_roomIn 74 = .ok (.ifCond .eq 8, 3) := by decide +kernel
theorem d_Model_roomIn_77 : decode b_Model_roomIn 77 = .ok (.iload 5, 2) := by decide +kernel
theorem d_Model_roomIn_79 : decode b_Model_roomIn 79 = .ok (.goto 5, 3) := by decide +kernel
theorem d_Model_roomIn_82 : decode b_Model_roomIn 82 = .ok (.iload 4, 2) := by decide +kernel
theorem d_Model_roomIn_84 : decode b_Model_roomIn 84 = .ok (.istore 4, 2) := by decide +kernel
theorem d_Model_roomIn_86 : decode b_Model_roomIn 86 = .ok (.iinc 5 1, 3) := by decide +kernel
theorem d_Model_roomIn_89 : decode b_Model_roomIn 89 = .ok (.goto (-72), 3) := by decide +kernel
theorem d_Model_roomIn_92 : decode b_Model_roomIn 92 = .ok (.iload 4, 2) := by decide +kernel
theorem d_Model_roomIn_94 : decode b_Model_roomIn 94 = .ok (.ireturn, 1) := by decide +kernel
theorem d_Model_serveOwn_0 : decode b_Model_serveOwn 0 = .ok (.aload_n 0, 1) := by decide +kernel
theorem d_Model_serveOwn_1 : decode b_Model_serveOwn 1 = .ok (.iload_n 1, 1) := by decide +kernel
theorem d_Model_serveOwn_2 : decode b_Model_serveOwn 2 = .ok (.iload_n 3, 1) := by decide +kernel
theorem d_Model_serveOwn_3 : decode b_Model_serveOwn 3 = .ok (.iconst 4, 1) := by decide +kernel
theorem d_Model_serveOwn_4 : decode b_Model_serveOwn 4 = .ok (.idiv, 1) := by decide +kernel
theorem d_Model_serveOwn_5 : decode b_Model_serveOwn 5 = .ok (.iconst 0, 1) := by decide +kernel
theorem d_Model_serveOwn_6 : decode b_Model_serveOwn 6 = .ok (.invokevirtual 109, 3) := by decide +kernel
theorem d_Model_serveOwn_9 : decode b_Model_serveOwn 9 = .ok (.istore 4, 2) := by decide +kernel
theorem d_Model_serveOwn_11 : decode b_Model_serveOwn 11 = .ok (.aload_n 0, 1) := by decide +kernel
theorem d_Model_serveOwn_12 : decode b_Model_serveOwn 12 = .ok (.iload_n 1, 1) := by decide +kernel
theorem d_Model_serveOwn_13 : decode b_Model_serveOwn 13 = .ok (.iload_n 3, 1) := by decide +kernel
theorem d_Model_serveOwn_14 : decode b_Model_serveOwn 14 = .ok (.iconst 4, 1) := by decide +kernel
theorem d_Model_serveOwn_15 : decode b_Model_serveOwn 15 = .ok (.idiv, 1) := by decide +kernel
theorem d_Model_serveOwn_16 : decode b_Model_serveOwn 16 = .ok (.invokevirtual 80, 3) := by decide +kernel
theorem d_Model_serveOwn_19 : decode b_Model_serveOwn 19 = .ok (.istore 5, 2) := by decide +kernel
theorem d_Model_serveOwn_21 : decode b_Model_serveOwn 21 = .ok (.iload 5, 2) := by decide +kernel
theorem d_Model_serveOwn_23 : decode b_Model_serveOwn 23 = .ok (.ifCond .lt 22, 3) := by decide +kernel
theorem d_Model_serveOwn_26 : decode b_Model_serveOwn 26 = .ok (.aload_n 0, 1) := by decide +kernel
theorem d_Model_serveOwn_27 : decode b_Model_serveOwn 27 = .ok (.getfield 46, 3) := by decide +kernel
theorem d_Model_serveOwn_30 : decode b_Model_serveOwn 30 = .ok (.iconst 3, 1) := by decide +kernel
theorem d_Model_serveOwn_31 : decode b_Model_serveOwn 31 = .ok (.dup2, 1) := by decide +kernel
theorem d_Model_serveOwn_32 : decode b_Model_serveOwn 32 = .ok (.iaload, 1) := by decide +kernel
theorem d_Model_serveOwn_33 : decode b_Model_serveOwn 33 = .ok (.iconst 1, 1) := by decide +kernel
theorem d_Model_serveOwn_34 : decode b_Model_serveOwn 34 = .ok (.iadd, 1) := by decide +kernel
theorem d_Model_serveOwn_35 : decode b_Model_serveOwn 35 = .ok (.iastore, 1) := by decide +kernel
theorem d_Model_serveOwn_36 : decode b_Model_serveOwn 36 = .ok (.aload_n 0, 1) := by decide +kernel
theorem d_Model_serveOwn_37 : decode b_Model_serveOwn 37 = .ok (.iload 5, 2) := by decide +kernel
theorem d_Model_serveOwn_39 : decode b_Model_serveOwn 39 = .ok (.invokevirtual 74, 3) := by decide +kernel
theorem d_Model_serveOwn_42 : decode b_Model_serveOwn 42 = .ok (.goto 13, 3) := by decide +kernel
theorem d_Model_serveOwn_45 : decode b_Model_serveOwn 45 = .ok (.aload_n 0, 1) := by decide +kernel
theorem d_Model_serveOwn_46 : decode b_Model_serveOwn 46 = .ok (.iload_n 1, 1) := by decide +kernel
theorem d_Model_serveOwn_47 : decode b_Model_serveOwn 47 = .ok (.iload_n 3, 1) := by decide +kernel
theorem d_Model_serveOwn_48 : decode b_Model_serveOwn 48 = .ok (.iconst 4, 1) := by decide +kernel
theorem d_Model_serveOwn_49 : decode b_Model_serveOwn 49 = .ok (.idiv, 1) := by decide +kernel
theorem d_Model_serveOwn_50 : decode b_Model_serveOwn 50 = .ok (.invokevirtual 113, 3) := by decide +kernel
theorem d_Model_serveOwn_53 : decode b_Model_serveOwn 53 = .ok (.istore 5, 2) := by decide +kernel
theorem d_Model_serveOwn_55 : decode b_Model_serveOwn 55 = .ok (.aload_n 0, 1) := by decide +kernel
theorem d_Model_serveOwn_56 : decode b_Model_serveOwn 56 = .ok (.getfield 16, 3) := by decide +kernel
theorem d_Model_serveOwn_59 : decode b_Model_serveOwn 59 = .ok (.iload 5, 2) := by decide +kernel
theorem d_Model_serveOwn_61 : decode b_Model_serveOwn 61 = .ok (.iconst 3, 1) := by decide +kernel
theorem d_Model_serveOwn_62 : decode b_Model_serveOwn 62 = .ok (.iastore, 1) := by decide +kernel
theorem d_Model_serveOwn_63 : decode b_Model_serveOwn 63 = .ok (.iload_n 2, 1) := by decide +kernel
theorem d_Model_serveOwn_64 : decode b_Model_serveOwn 64 = .ok (.iconst 2, 1) := by decide +kernel
theorem d_Model_serveOwn_65 : decode b_Model_serveOwn 65 = .ok (.if_icmp .ne 13, 3) := by decide +kernel
theorem d_Model_serveOwn_68 : decode b_Model_serveOwn 68 = .ok (.aload_n 0, 1) := by decide +kernel
theorem d_Model_serveOwn_69 : decode b_Model_serveOwn 69 = .ok (.iload_n 1, 1) := by decide +kernel
theorem d_Model_serveOwn_70 : decode b_Model_serveOwn 70 = .ok (.iload 5, 2) := by decide +kernel
theorem d_Model_serveOwn_72 : decode b_Model_serveOwn 72 = .ok (.invokevirtual 97, 3) := by decide +kernel
theorem d_Model_serveOwn_75 : decode b_Model_serveOwn 75 = .ok (.goto 27, 3) := by decide +kernel
theorem d_Model_serveOwn_78 : decode b_Model_serveOwn 78 = .ok (.aload_n 0, 1) := by decide +kernel
theorem d_Model_serveOwn_79 : decode b_Model_serveOwn 79 = .ok (.iload_n 1, 1) := by decide +kernel
theorem d_Model_serveOwn_80 : decode b_Model_serveOwn 80 = .ok (.iload 5, 2) := by decide +kernel
theorem d_Model_serveOwn_82 : decode b_Model_serveOwn 82 = .ok (.iload_n 3, 1) := by decide +kernel
theorem d_Model_serveOwn_83 : decode b_Model_serveOwn 83 = .ok (.aload_n 0, 1) := by decide +kernel
theorem d_Model_serveOwn_84 : decode b_Model_serveOwn 84 = .ok (.getfield 43, 3) := by decide +kernel
theorem d_Model_serveOwn_87 : decode b_Model_serveOwn 87 = .ok (.iload_n 1, 1) := by decide +kernel
theorem d_Model_serveOwn_88 : decode b_Model_serveOwn 88 = .ok (.iaload, 1) := by decide +kernel
theorem d_Model_serveOwn_89 : decode b_Model_serveOwn 89 = .ok (.iload_n 2, 1) := by decide +kernel
theorem d_Model_serveOwn_90 : decode b_Model_serveOwn 90 = .ok (.iconst 4, 1) := by decide +kernel
theorem d_Model_serveOwn_91 : decode b_Model_serveOwn 91 = .ok (.if_icmp .ne 7, 3) := by decide +kernel
theorem d_Model_serveOwn_94 : decode b_Model_serveOwn 94 = .ok (.iconst 1, 1) := by decide +kernel
theorem d_Model_serveOwn_95 : decode b_Model_serveOwn 95 = .ok (.goto 4, 3) := by decide +kernel
theorem d_Model_serveOwn_98 : decode b_Model_serveOwn 98 = .ok (.iconst 0, 1) := by decide +kernel
theorem d_Model_serveOwn_99 : decode b_Model_serveOwn 99 = .ok (.invokevirtual 101, 3) := by decide +kernel
theorem d_Model_serveOwn_102 : decode b_Model_serveOwn 102 = .ok (.return_, 1) := by decide +kernel
theorem d_Model_evict_0 : decode b_Model_evict 0 = .ok (.aload_n 0, 1) := by decide +kernel
theorem d_Model_evict_1 : decode b_Model_evict 1 = .ok (.iload_n 1, 1) := by decide +kernel
theorem d_Model_evict_2 : decode b_Model_evict 2 = .ok (.invokevirtual 56, 3) := by decide +kernel
theorem d_Model_evict_5 : decode b_Model_evict 5 = .ok (.ifCond .eq 13, 3) := by decide +kernel
theorem d_Model_evict_8 : decode b_Model_evict 8 = .ok (.iload_n 2, 1) := by decide +kernel
theorem d_Model_evict_9 : decode b_Model_evict 9 = .ok (.ifCond .lt 9, 3) := by decide +kernel
theorem d_Model_evict_12 : decode b_Model_evict 12 = .ok (.iload_n 2, 1) := by decide +kernel
theorem d_Model_evict_13 : decode b_Model_evict 13 = .ok (.bipush 7, 2) := by decide +kernel
theorem d_Model_evict_15 : decode b_Model_evict 15 = .ok (.if_icmp .le 5, 3) := by decide +kernel
theorem d_Model_evict_18 : decode b_Model_evict 18 = .ok (.iconst (-1), 1) := by decide +kernel
theorem d_Model_evict_19 : decode b_Model_evict 19 = .ok (.ireturn, 1) := by decide +kernel
theorem d_Model_evict_20 : decode b_Model_evict 20 = .ok (.aload_n 0, 1) := by decide +kernel
theorem d_Model_evict_21 : decode b_Model_evict 21 = .ok (.getfield 37, 3) := by decide +kernel
theorem d_Model_evict_24 : decode b_Model_evict 24 = .ok (.iload_n 1, 1) := by decide +kernel
theorem d_Model_evict_25 : decode b_Model_evict 25 = .ok (.iaload, 1) := by decide +kernel
theorem d_Model_evict_26 : decode b_Model_evict 26 = .ok (.ifCond .le 6, 3) := by decide +kernel
theorem d_Model_evict_29 : decode b_Model_evict 29 = .ok (.bipush (-2), 2) := by decide +kernel
theorem d_Model_evict_31 : decode b_Model_evict 31 = .ok (.ireturn, 1) := by decide +kernel
theorem d_Model_evict_32 : decode b_Model_evict 32 = .ok (.aload_n 0, 1) := by decide +kernel
theorem d_Model_evict_33 : decode b_Model_evict 33 = .ok (.iload_n 1, 1) := by decide +kernel
theorem d_Model_evict_34 : decode b_Model_evict 34 = .ok (.iload_n 2, 1) := by decide +kernel
theorem d_Model_evict_35 : decode b_Model_evict 35 = .ok (.invokevirtual 80, 3) := by decide +kernel
theorem d_Model_evict_38 : decode b_Model_evict 38 = .ok (.istore_n 3, 1) := by decide +kernel
theorem d_Model_evict_39 : decode b_Model_evict 39 = .ok (.iload_n 3, 1) := by decide +kernel
theorem d_Model_evict_40 : decode b_Model_evict 40 = .ok (.ifCond .ge 5, 3) := by decide +kernel
theorem d_Model_evict_43 : decode b_Model_evict 43 = .ok (.iconst 0, 1) := by decide +kernel
theorem d_Model_evict_44 : decode b_Model_evict 44 = .ok (.ireturn, 1) := by decide +kernel
theorem d_Model_evict_45 : decode b_Model_evict 45 = .ok (.aload_n 0, 1) := by decide +kernel
theorem d_Model_evict_46 : decode b_Model_evict 46 = .ok (.getfield 16, 3) := by decide +kernel
theorem d_Model_evict_49 : decode b_Model_evict 49 = .ok (.iload_n 3, 1) := by decide +kernel
theorem d_Model_evict_50 : decode b_Model_evict 50 = .ok (.iaload, 1) := by decide +kernel
theorem d_Model_evict_51 : decode b_Model_evict 51 = .ok (.istore 4, 2) := by decide +kernel
theorem d_Model_evict_53 : decode b_Model_evict 53 = .ok (.iload 4, 2) := by decide +kernel
theorem d_Model_evict_55 : decode b_Model_evict 55 = .ok (.iconst 3, 1) := by decide +kernel
theorem d_Model_evict_56 : decode b_Model_evict 56 = .ok (.if_icmp .ne 8, 3) := by decide +kernel
theorem d_Model_evict_59 : decode b_Model_evict 59 = .ok (.aload_n 0, 1) := by decide +kernel
theorem d_Model_evict_60 : decode b_Model_evict 60 = .ok (.iload_n 3, 1) := by decide +kernel
theorem d_Model_evict_61 : decode b_Model_evict 61 = .ok (.invokevirtual 70, 3) := by decide +kernel
theorem d_Model_evict_64 : decode b_Model_evict 64 = .ok (.aload_n 0, 1) := by decide +kernel
theorem d_Model_evict_65 : decode b_Model_evict 65 = .ok (.getfield 16, 3) := by decide +kernel
theorem d_Model_evict_68 : decode b_Model_evict 68 = .ok (.iload_n 3, 1) := by decide +kernel
theorem d_Model_evict_69 : decode b_Model_evict 69 = .ok (.iconst 0, 1) := by decide +kernel
theorem d_Model_evict_70 : decode b_Model_evict 70 = .ok (.iastore, 1) := by decide +kernel
theorem d_Model_evict_71 : decode b_Model_evict 71 = .ok (.iload 4, 2) := by decide +kernel
theorem d_Model_evict_73 : decode b_Model_evict 73 = .ok (.ireturn, 1) := by decide +kernel
theorem d_Model_last_0 : decode b_Model_last 0 = .ok (.aload_n 0, 1) := by decide +kernel
theorem d_Model_last_1 : decode b_Model_last 1 = .ok (.iload_n 1, 1) := by decide +kernel
theorem d_Model_last_2 : decode b_Model_last 2 = .ok (.invokevirtual 56, 3) := by decide +kernel
theorem d_Model_last_5 : decode b_Model_last 5 = .ok (.ifCond .eq 12, 3) := by decide +kernel
theorem d_Model_last_8 : decode b_Model_last 8 = .ok (.aload_n 0, 1) := by decide +kernel
theorem d_Model_last_9 : decode b_Model_last 9 = .ok (.getfield 34, 3) := by decide +kernel
theorem d_Model_last_12 : decode b_Model_last 12 = .ok (.iload_n 1, 1) := by decide +kernel
theorem d_Model_last_13 : decode b_Model_last 13 = .ok (.iaload, 1) := by decide +kernel
theorem d_Model_last_14 : decode b_Model_last 14 = .ok (.goto 4, 3) := by decide +kernel
theorem d_Model_last_17 : decode b_Model_last 17 = .ok (.iconst 0, 1) := by decide +kernel
theorem d_Model_last_18 : decode b_Model_last 18 = .ok (.ireturn, 1) := by decide +kernel
theorem d_Model_request_0 : decode b_Model_request 0 = .ok (.aload_n 0, 1) := by decide +kernel
theorem d_Model_request_1 : decode b_Model_request 1 = .ok (.iload_n 1, 1) := by decide +kernel
theorem d_Model_request_2 : decode b_Model_request 2 = .ok (.invokevirtual 56, 3) := by decide +kernel
theorem d_Model_request_5 : decode b_Model_request 5 = .ok (.ifCond .ne 7, 3) := by decide +kernel
theorem d_Model_request_8 : decode b_Model_request 8 = .ok (.iconst (-1), 1) := by decide +kernel
theorem d_Model_request_9 : decode b_Model_request 9 = .ok (.goto 32, 3) := by decide +kernel
theorem d_Model_request_12 : decode b_Model_request 12 = .ok (.aload_n 0, 1) := by decide +kernel
theorem d_Model_request_13 : decode b_Model_request 13 = .ok (.getfield 37, 3) := by decide +kernel
theorem d_Model_request_16 : decode b_Model_request 16 = .ok (.iload_n 1, 1) := by decide +kernel
theorem d_Model_request_17 : decode b_Model_request 17 = .ok (.iaload, 1) := by decide +kernel
theorem d_Model_request_18 : decode b_Model_request 18 = .ok (.ifCond .ne 7, 3) := by decide +kernel
theorem d_Model_request_21 : decode b_Model_request 21 = .ok (.iconst 0, 1) := by decide +kernel
theorem d_Model_request_22 : decode b_Model_request 22 = .ok (.goto 19, 3) := by decide +kernel
theorem d_Model_request_25 : decode b_Model_request 25 = .ok (.aload_n 0, 1) := by decide +kernel
theorem d_Model_request_26 : decode b_Model_request 26 = .ok (.getfield 37, 3) := by decide +kernel
theorem d_Model_request_29 : decode b_Model_request 29 = .ok (.iload_n 1, 1) := by decide +kernel
theorem d_Model_request_30 : decode b_Model_request 30 = .ok (.iaload, 1) := by decide +kernel
theorem d_Model_request_31 : decode b_Model_request 31 = .ok (.bipush 8, 2) := by decide +kernel
theorem d_Model_request_33 : decode b_Model_request 33 = .ok (.aload_n 0, 1) := by decide +kernel
theorem d_Model_request_34 : decode b_Model_request 34 = .ok (.getfield 40, 3) := by decide +kernel
theorem d_Model_request_37 : decode b_Model_request 37 = .ok (.iload_n 1, 1) := by decide +kernel
theorem d_Model_request_38 : decode b_Model_request 38 = .ok (.iaload, 1) := by decide +kernel
theorem d_Model_request_39 : decode b_Model_request 39 = .ok (.imul, 1) := by decide +kernel
theorem d_Model_request_40 : decode b_Model_request 40 = .ok (.iadd, 1) := by decide +kernel
theorem d_Model_request_41 : decode b_Model_request 41 = .ok (.ireturn, 1) := by decide +kernel
theorem d_Model_buffered_0 : decode b_Model_buffered 0 = .ok (.aload_n 0, 1) := by decide +kernel
theorem d_Model_buffered_1 : decode b_Model_buffered 1 = .ok (.iload_n 1, 1) := by decide +kernel
theorem d_Model_buffered_2 : decode b_Model_buffered 2 = .ok (.invokevirtual 56, 3) := by decide +kernel
theorem d_Model_buffered_5 : decode b_Model_buffered 5 = .ok (.ifCond .eq 12, 3) := by decide +kernel
theorem d_Model_buffered_8 : decode b_Model_buffered 8 = .ok (.aload_n 0, 1) := by decide +kernel
theorem d_Model_buffered_9 : decode b_Model_buffered 9 = .ok (.getfield 25, 3) := by decide +kernel
theorem d_Model_buffered_12 : decode b_Model_buffered 12 = .ok (.iload_n 1, 1) := by decide +kernel
theorem d_Model_buffered_13 : decode b_Model_buffered 13 = .ok (.iaload, 1) := by decide +kernel
theorem d_Model_buffered_14 : decode b_Model_buffered 14 = .ok (.goto 4, 3) := by decide +kernel
theorem d_Model_buffered_17 : decode b_Model_buffered 17 = .ok (.iconst (-1), 1) := by decide +kernel
theorem d_Model_buffered_18 : decode b_Model_buffered 18 = .ok (.ireturn, 1) := by decide +kernel
theorem d_Model_state_0 : decode b_Model_state 0 = .ok (.aload_n 0, 1) := by decide +kernel
theorem d_Model_state_1 : decode b_Model_state 1 = .ok (.iload_n 1, 1) := by decide +kernel
theorem d_Model_state_2 : decode b_Model_state 2 = .ok (.invokevirtual 56, 3) := by decide +kernel
theorem d_Model_state_5 : decode b_Model_state 5 = .ok (.ifCond .eq 13, 3) := by decide +kernel
theorem d_Model_state_8 : decode b_Model_state 8 = .ok (.iload_n 2, 1) := by decide +kernel
theorem d_Model_state_9 : decode b_Model_state 9 = .ok (.ifCond .lt 9, 3) := by decide +kernel
theorem d_Model_state_12 : decode b_Model_state 12 = .ok (.iload_n 2, 1) := by decide +kernel
theorem d_Model_state_13 : decode b_Model_state 13 = .ok (.bipush 7, 2) := by decide +kernel
theorem d_Model_state_15 : decode b_Model_state 15 = .ok (.if_icmp .le 5, 3) := by decide +kernel
theorem d_Model_state_18 : decode b_Model_state 18 = .ok (.iconst (-1), 1) := by decide +kernel
theorem d_Model_state_19 : decode b_Model_state 19 = .ok (.ireturn, 1) := by decide +kernel
theorem d_Model_state_20 : decode b_Model_state 20 = .ok (.aload_n 0, 1) := by decide +kernel
theorem d_Model_state_21 : decode b_Model_state 21 = .ok (.iload_n 1, 1) := by decide +kernel
theorem d_Model_state_22 : decode b_Model_state 22 = .ok (.iload_n 2, 1) := by decide +kernel
theorem d_Model_state_23 : decode b_Model_state 23 = .ok (.invokevirtual 80, 3) := by decide +kernel
theorem d_Model_state_26 : decode b_Model_state 26 = .ok (.istore_n 3, 1) := by decide +kernel
theorem d_Model_state_27 : decode b_Model_state 27 = .ok (.iload_n 3, 1) := by decide +kernel
theorem d_Model_state_28 : decode b_Model_state 28 = .ok (.ifCond .ge 7, 3) := by decide +kernel
theorem d_Model_state_31 : decode b_Model_state 31 = .ok (.iconst 0, 1) := by decide +kernel
theorem d_Model_state_32 : decode b_Model_state 32 = .ok (.goto 9, 3) := by decide +kernel
theorem d_Model_state_35 : decode b_Model_state 35 = .ok (.aload_n 0, 1) := by decide +kernel
theorem d_Model_state_36 : decode b_Model_state 36 = .ok (.getfield 16, 3) := by decide +kernel
theorem d_Model_state_39 : decode b_Model_state 39 = .ok (.iload_n 3, 1) := by decide +kernel
theorem d_Model_state_40 : decode b_Model_state 40 = .ok (.iaload, 1) := by decide +kernel
theorem d_Model_state_41 : decode b_Model_state 41 = .ok (.ireturn, 1) := by decide +kernel
theorem d_Model_copy_0 : decode b_Model_copy 0 = .ok (.aload_n 0, 1) := by decide +kernel
theorem d_Model_copy_1 : decode b_Model_copy 1 = .ok (.iload_n 1, 1) := by decide +kernel
theorem d_Model_copy_2 : decode b_Model_copy 2 = .ok (.invokevirtual 56, 3) := by decide +kernel
theorem d_Model_copy_5 : decode b_Model_copy 5 = .ok (.ifCond .eq 10, 3) := by decide +kernel
theorem d_Model_copy_8 : decode b_Model_copy 8 = .ok (.iload_n 2, 1) := by decide +kernel
theorem d_Model_copy_9 : decode b_Model_copy 9 = .ok (.invokestatic 60, 3) := by decide +kernel
theorem d_Model_copy_12 : decode b_Model_copy 12 = .ok (.ifCond .ne 5, 3) := by decide +kernel
theorem d_Model_copy_15 : decode b_Model_copy 15 = .ok (.iconst 0, 1) := by decide +kernel
theorem d_Model_copy_16 : decode b_Model_copy 16 = .ok (.ireturn, 1) := by decide +kernel
theorem d_Model_copy_17 : decode b_Model_copy 17 = .ok (.aload_n 0, 1) := by decide +kernel
theorem d_Model_copy_18 : decode b_Model_copy 18 = .ok (.iload_n 1, 1) := by decide +kernel
theorem d_Model_copy_19 : decode b_Model_copy 19 = .ok (.iload_n 2, 1) := by decide +kernel
theorem d_Model_copy_20 : decode b_Model_copy 20 = .ok (.iconst 4, 1) := by decide +kernel
theorem d_Model_copy_21 : decode b_Model_copy 21 = .ok (.idiv, 1) := by decide +kernel
theorem d_Model_copy_22 : decode b_Model_copy 22 = .ok (.invokevirtual 80, 3) := by decide +kernel
theorem d_Model_copy_25 : decode b_Model_copy 25 = .ok (.istore_n 3, 1) := by decide +kernel
theorem d_Model_copy_26 : decode b_Model_copy 26 = .ok (.iload_n 3, 1) := by decide +kernel
theorem d_Model_copy_27 : decode b_Model_copy 27 = .ok (.ifCond .ge 7, 3) := by decide +kernel
theorem d_Model_copy_30 : decode b_Model_copy 30 = .ok (.iconst 0, 1) := by decide +kernel
theorem d_Model_copy_31 : decode b_Model_copy 31 = .ok (.goto 9, 3) := by decide +kernel
theorem d_Model_copy_34 : decode b_Model_copy 34 = .ok (.aload_n 0, 1) := by decide +kernel
theorem d_Model_copy_35 : decode b_Model_copy 35 = .ok (.iload_n 3, 1) := by decide +kernel
theorem d_Model_copy_36 : decode b_Model_copy 36 = .ok (.iload_n 2, 1) := by decide +kernel
theorem d_Model_copy_37 : decode b_Model_copy 37 = .ok (.invokevirtual 87, 3) := by decide +kernel
theorem d_Model_copy_40 : decode b_Model_copy 40 = .ok (.ireturn, 1) := by decide +kernel
theorem d_Model_memory_0 : decode b_Model_memory 0 = .ok (.iload_n 1, 1) := by decide +kernel
theorem d_Model_memory_1 : decode b_Model_memory 1 = .ok (.invokestatic 60, 3) := by decide +kernel
theorem d_Model_memory_4 : decode b_Model_memory 4 = .ok (.ifCond .eq 12, 3) := by decide +kernel
theorem d_Model_memory_7 : decode b_Model_memory 7 = .ok (.aload_n 0, 1) := by decide +kernel
theorem d_Model_memory_8 : decode b_Model_memory 8 = .ok (.getfield 7, 3) := by decide +kernel
theorem d_Model_memory_11 : decode b_Model_memory 11 = .ok (.iload_n 1, 1) := by decide +kernel
theorem d_Model_memory_12 : decode b_Model_memory 12 = .ok (.iaload, 1) := by decide +kernel
theorem d_Model_memory_13 : decode b_Model_memory 13 = .ok (.goto 4, 3) := by decide +kernel
theorem d_Model_memory_16 : decode b_Model_memory 16 = .ok (.iconst 0, 1) := by decide +kernel
theorem d_Model_memory_17 : decode b_Model_memory 17 = .ok (.ireturn, 1) := by decide +kernel
theorem d_Model_seen_0 : decode b_Model_seen 0 = .ok (.iload_n 1, 1) := by decide +kernel
theorem d_Model_seen_1 : decode b_Model_seen 1 = .ok (.invokestatic 60, 3) := by decide +kernel
theorem d_Model_seen_4 : decode b_Model_seen 4 = .ok (.ifCond .ne 5, 3) := by decide +kernel
theorem d_Model_seen_7 : decode b_Model_seen 7 = .ok (.iconst 0, 1) := by decide +kernel
theorem d_Model_seen_8 : decode b_Model_seen 8 = .ok (.ireturn, 1) := by decide +kernel
theorem d_Model_seen_9 : decode b_Model_seen 9 = .ok (.aload_n 0, 1) := by decide +kernel
theorem d_Model_seen_10 : decode b_Model_seen 10 = .ok (.getfield 7, 3) := by decide +kernel
theorem d_Model_seen_13 : decode b_Model_seen 13 = .ok (.iload_n 1, 1) := by decide +kernel
theorem d_Model_seen_14 : decode b_Model_seen 14 = .ok (.iaload, 1) := by decide +kernel
theorem d_Model_seen_15 : decode b_Model_seen 15 = .ok (.istore_n 2, 1) := by decide +kernel
theorem d_Model_seen_16 : decode b_Model_seen 16 = .ok (.iconst 0, 1) := by decide +kernel
theorem d_Model_seen_17 : decode b_Model_seen 17 = .ok (.istore_n 3, 1) := by decide +kernel
theorem d_Model_seen_18 : decode b_Model_seen 18 = .ok (.iload_n 3, 1) := by decide +kernel
theorem d_Model_seen_19 : decode b_Model_seen 19 = .ok (.aload_n 0, 1) := by decide +kernel
theorem d_Model_seen_20 : decode b_Model_seen 20 = .ok (.getfield 49, 3) := by decide +kernel
theorem d_Model_seen_23 : decode b_Model_seen 23 = .ok (.if_icmp .ge 47, 3) := by decide +kernel
theorem d_Model_seen_26 : decode b_Model_seen 26 = .ok (.aload_n 0, 1) := by decide +kernel
theorem d_Model_seen_27 : decode b_Model_seen 27 = .ok (.iload_n 3, 1) := by decide +kernel
theorem d_Model_seen_28 : decode b_Model_seen 28 = .ok (.iload_n 1, 1) := by decide +kernel
theorem d_Model_seen_29 : decode b_Model_seen 29 = .ok (.iconst 4, 1) := by decide +kernel
theorem d_Model_seen_30 : decode b_Model_seen 30 = .ok (.idiv, 1) := by decide +kernel
theorem d_Model_seen_31 : decode b_Model_seen 31 = .ok (.invokevirtual 80, 3) := by decide +kernel
theorem d_Model_seen_34 : decode b_Model_seen 34 = .ok (.istore 4, 2) := by decide +kernel
theorem d_Model_seen_36 : decode b_Model_seen 36 = .ok (.iload 4, 2) := by decide +kernel
theorem d_Model_seen_38 : decode b_Model_seen 38 = .ok (.ifCond .lt 24, 3) := by decide +kernel
theorem d_Model_seen_41 : decode b_Model_seen 41 = .ok (.aload_n 0, 1) := by decide +kernel
theorem d_Model_seen_42 : decode b_Model_seen 42 = .ok (.getfield 16, 3) := by decide +kernel
theorem d_Model_seen_45 : decode b_Model_seen 45 = .ok (.iload 4, 2) := by decide +kernel
theorem d_Model_seen_47 : decode b_Model_seen 47 = .ok (.iaload, 1) := by decide +kernel
theorem d_Model_seen_48 : decode b_Model_seen 48 = .ok (.iconst 3, 1) := by decide +kernel
theorem d_Model_seen_49 : decode b_Model_seen 49 = .ok (.if_icmp .ne 13, 3) := by decide +kernel
theorem d_Model_seen_52 : decode b_Model_seen 52 = .ok (.aload_n 0, 1) := by decide +kernel
theorem d_Model_seen_53 : decode b_Model_seen 53 = .ok (.iload 4, 2) := by decide +kernel
theorem d_Model_seen_55 : decode b_Model_seen 55 = .ok (.iload_n 1, 1) := by decide +kernel
theorem d_Model_seen_56 : decode b_Model_seen 56 = .ok (.invokevirtual 87, 3) := by decide +kernel
theorem d_Model_seen_59 : decode b_Model_seen 59 = .ok (.goto 4, 3) := by decide +kernel
theorem d_Model_seen_62 : decode b_Model_seen 62 = .ok (.iload_n 2, 1) := by decide +kernel
theorem d_Model_seen_63 : decode b_Model_seen 63 = .ok (.istore_n 2, 1) := by decide +kernel
theorem d_Model_seen_64 : decode b_Model_seen 64 = .ok (.iinc 3 1, 3) := by decide +kernel
theorem d_Model_seen_67 : decode b_Model_seen 67 = .ok (.goto (-49), 3) := by decide +kernel
theorem d_Model_seen_70 : decode b_Model_seen 70 = .ok (.iload_n 2, 1) := by decide +kernel
theorem d_Model_seen_71 : decode b_Model_seen 71 = .ok (.ireturn, 1) := by decide +kernel
theorem d_Model_count_0 : decode b_Model_count 0 = .ok (.iload_n 1, 1) := by decide +kernel
theorem d_Model_count_1 : decode b_Model_count 1 = .ok (.ifCond .lt 17, 3) := by decide +kernel
theorem d_Model_count_4 : decode b_Model_count 4 = .ok (.iload_n 1, 1) := by decide +kernel
theorem d_Model_count_5 : decode b_Model_count 5 = .ok (.iconst 4, 1) := by decide +kernel
theorem d_Model_count_6 : decode b_Model_count 6 = .ok (.if_icmp .ge 12, 3) := by decide +kernel
theorem d_Model_count_9 : decode b_Model_count 9 = .ok (.aload_n 0, 1) := by decide +kernel
theorem d_Model_count_10 : decode b_Model_count 10 = .ok (.getfield 46, 3) := by decide +kernel
theorem d_Model_count_13 : decode b_Model_count 13 = .ok (.iload_n 1, 1) := by decide +kernel
theorem d_Model_count_14 : decode b_Model_count 14 = .ok (.iaload, 1) := by decide +kernel
theorem d_Model_count_15 : decode b_Model_count 15 = .ok (.goto 4, 3) := by decide +kernel
theorem d_Model_count_18 : decode b_Model_count 18 = .ok (.iconst (-1), 1) := by decide +kernel
theorem d_Model_count_19 : decode b_Model_count 19 = .ok (.ireturn, 1) := by decide +kernel
theorem d_Model_victim_0 : decode b_Model_victim 0 = .ok (.aload_n 0, 1) := by decide +kernel
theorem d_Model_victim_1 : decode b_Model_victim 1 = .ok (.iload_n 1, 1) := by decide +kernel
theorem d_Model_victim_2 : decode b_Model_victim 2 = .ok (.invokevirtual 56, 3) := by decide +kernel
theorem d_Model_victim_5 : decode b_Model_victim 5 = .ok (.ifCond .eq 12, 3) := by decide +kernel
theorem d_Model_victim_8 : decode b_Model_victim 8 = .ok (.iload_n 2, 1) := by decide +kernel
theorem d_Model_victim_9 : decode b_Model_victim 9 = .ok (.ifCond .lt 8, 3) := by decide +kernel
theorem d_Model_victim_12 : decode b_Model_victim 12 = .ok (.iload_n 2, 1) := by decide +kernel
theorem d_Model_victim_13 : decode b_Model_victim 13 = .ok (.iconst 1, 1) := by decide +kernel
theorem d_Model_victim_14 : decode b_Model_victim 14 = .ok (.if_icmp .le 5, 3) := by decide +kernel
theorem d_Model_victim_17 : decode b_Model_victim 17 = .ok (.iconst (-1), 1) := by decide +kernel
theorem d_Model_victim_18 : decode b_Model_victim 18 = .ok (.ireturn, 1) := by decide +kernel
theorem d_Model_victim_19 : decode b_Model_victim 19 = .ok (.aload_n 0, 1) := by decide +kernel
theorem d_Model_victim_20 : decode b_Model_victim 20 = .ok (.iload_n 1, 1) := by decide +kernel
theorem d_Model_victim_21 : decode b_Model_victim 21 = .ok (.iload_n 2, 1) := by decide +kernel
theorem d_Model_victim_22 : decode b_Model_victim 22 = .ok (.invokevirtual 66, 3) := by decide +kernel
theorem d_Model_victim_25 : decode b_Model_victim 25 = .ok (.istore_n 3, 1) := by decide +kernel
theorem d_Model_victim_26 : decode b_Model_victim 26 = .ok (.aload_n 0, 1) := by decide +kernel
theorem d_Model_victim_27 : decode b_Model_victim 27 = .ok (.getfield 16, 3) := by decide +kernel
theorem d_Model_victim_30 : decode b_Model_victim 30 = .ok (.iload_n 3, 1) := by decide +kernel
theorem d_Model_victim_31 : decode b_Model_victim 31 = .ok (.iaload, 1) := by decide +kernel
theorem d_Model_victim_32 : decode b_Model_victim 32 = .ok (.ifCond .ne 7, 3) := by decide +kernel
theorem d_Model_victim_35 : decode b_Model_victim 35 = .ok (.iconst (-1), 1) := by decide +kernel
theorem d_Model_victim_36 : decode b_Model_victim 36 = .ok (.goto 9, 3) := by decide +kernel
theorem d_Model_victim_39 : decode b_Model_victim 39 = .ok (.aload_n 0, 1) := by decide +kernel
theorem d_Model_victim_40 : decode b_Model_victim 40 = .ok (.getfield 13, 3) := by decide +kernel
theorem d_Model_victim_43 : decode b_Model_victim 43 = .ok (.iload_n 3, 1) := by decide +kernel
theorem d_Model_victim_44 : decode b_Model_victim 44 = .ok (.iaload, 1) := by decide +kernel
theorem d_Model_victim_45 : decode b_Model_victim 45 = .ok (.ireturn, 1) := by decide +kernel
