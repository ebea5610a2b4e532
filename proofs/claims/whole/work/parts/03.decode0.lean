theorem dX0_init_0 : decode cX0_init 0 = .ok (.aload_n 0, 1) := by decide +kernel
theorem dX0_init_1 : decode cX0_init 1 = .ok (.invokespecial 3, 3) := by decide +kernel
theorem dX0_init_4 : decode cX0_init 4 = .ok (.aload_n 0, 1) := by decide +kernel
theorem dX0_init_5 : decode cX0_init 5 = .ok (.bipush 12, 2) := by decide +kernel
theorem dX0_init_7 : decode cX0_init 7 = .ok (.bipush 16, 2) := by decide +kernel
theorem dX0_init_9 : decode cX0_init 9 = .ok (.multianewarray 9 2, 4) := by decide +kernel
theorem dX0_init_13 : decode cX0_init 13 = .ok (.putfield 11, 3) := by decide +kernel
theorem dX0_init_16 : decode cX0_init 16 = .ok (.aload_n 0, 1) := by decide +kernel
theorem dX0_init_17 : decode cX0_init 17 = .ok (.bipush 12, 2) := by decide +kernel
theorem dX0_init_19 : decode cX0_init 19 = .ok (.bipush 16, 2) := by decide +kernel
theorem dX0_init_21 : decode cX0_init 21 = .ok (.multianewarray 9 2, 4) := by decide +kernel
theorem dX0_init_25 : decode cX0_init 25 = .ok (.putfield 16, 3) := by decide +kernel
theorem dX0_init_28 : decode cX0_init 28 = .ok (.aload_n 0, 1) := by decide +kernel
theorem dX0_init_29 : decode cX0_init 29 = .ok (.bipush 12, 2) := by decide +kernel
theorem dX0_init_31 : decode cX0_init 31 = .ok (.newarray .int, 2) := by decide +kernel
theorem dX0_init_33 : decode cX0_init 33 = .ok (.putfield 19, 3) := by decide +kernel
theorem dX0_init_36 : decode cX0_init 36 = .ok (.aload_n 0, 1) := by decide +kernel
theorem dX0_init_37 : decode cX0_init 37 = .ok (.bipush 12, 2) := by decide +kernel
theorem dX0_init_39 : decode cX0_init 39 = .ok (.newarray .int, 2) := by decide +kernel
theorem dX0_init_41 : decode cX0_init 41 = .ok (.putfield 23, 3) := by decide +kernel
theorem dX0_init_44 : decode cX0_init 44 = .ok (.aload_n 0, 1) := by decide +kernel
theorem dX0_init_45 : decode cX0_init 45 = .ok (.bipush 12, 2) := by decide +kernel
theorem dX0_init_47 : decode cX0_init 47 = .ok (.newarray .int, 2) := by decide +kernel
theorem dX0_init_49 : decode cX0_init 49 = .ok (.putfield 26, 3) := by decide +kernel
theorem dX0_init_52 : decode cX0_init 52 = .ok (.aload_n 0, 1) := by decide +kernel
theorem dX0_init_53 : decode cX0_init 53 = .ok (.bipush 24, 2) := by decide +kernel
theorem dX0_init_55 : decode cX0_init 55 = .ok (.newarray .int, 2) := by decide +kernel
theorem dX0_init_57 : decode cX0_init 57 = .ok (.putfield 29, 3) := by decide +kernel
theorem dX0_init_60 : decode cX0_init 60 = .ok (.aload_n 0, 1) := by decide +kernel
theorem dX0_init_61 : decode cX0_init 61 = .ok (.iconst 0, 1) := by decide +kernel
theorem dX0_init_62 : decode cX0_init 62 = .ok (.putfield 32, 3) := by decide +kernel
theorem dX0_init_65 : decode cX0_init 65 = .ok (.aload_n 0, 1) := by decide +kernel
theorem dX0_init_66 : decode cX0_init 66 = .ok (.bipush (-2), 2) := by decide +kernel
theorem dX0_init_68 : decode cX0_init 68 = .ok (.putfield 36, 3) := by decide +kernel
theorem dX0_init_71 : decode cX0_init 71 = .ok (.aload_n 0, 1) := by decide +kernel
theorem dX0_init_72 : decode cX0_init 72 = .ok (.bipush (-2), 2) := by decide +kernel
theorem dX0_init_74 : decode cX0_init 74 = .ok (.putfield 39, 3) := by decide +kernel
theorem dX0_init_77 : decode cX0_init 77 = .ok (.aload_n 0, 1) := by decide +kernel
theorem dX0_init_78 : decode cX0_init 78 = .ok (.sipush 1000, 3) := by decide +kernel
theorem dX0_init_81 : decode cX0_init 81 = .ok (.newarray .int, 2) := by decide +kernel
theorem dX0_init_83 : decode cX0_init 83 = .ok (.putfield 42, 3) := by decide +kernel
theorem dX0_init_86 : decode cX0_init 86 = .ok (.aload_n 0, 1) := by decide +kernel
theorem dX0_init_87 : decode cX0_init 87 = .ok (.bipush 16, 2) := by decide +kernel
theorem dX0_init_89 : decode cX0_init 89 = .ok (.newarray .long, 2) := by decide +kernel
theorem dX0_init_91 : decode cX0_init 91 = .ok (.putfield 45, 3) := by decide +kernel
theorem dX0_init_94 : decode cX0_init 94 = .ok (.aload_n 0, 1) := by decide +kernel
theorem dX0_init_95 : decode cX0_init 95 = .ok (.iconst (-1), 1) := by decide +kernel
theorem dX0_init_96 : decode cX0_init 96 = .ok (.putfield 49, 3) := by decide +kernel
theorem dX0_init_99 : decode cX0_init 99 = .ok (.aload_n 0, 1) := by decide +kernel
theorem dX0_init_100 : decode cX0_init 100 = .ok (.iconst 0, 1) := by decide +kernel
theorem dX0_init_101 : decode cX0_init 101 = .ok (.putfield 52, 3) := by decide +kernel
theorem dX0_init_104 : decode cX0_init 104 = .ok (.aload_n 0, 1) := by decide +kernel
theorem dX0_init_105 : decode cX0_init 105 = .ok (.aload_n 1, 1) := by decide +kernel
theorem dX0_init_106 : decode cX0_init 106 = .ok (.putfield 56, 3) := by decide +kernel
theorem dX0_init_109 : decode cX0_init 109 = .ok (.aload_n 0, 1) := by decide +kernel
theorem dX0_init_110 : decode cX0_init 110 = .ok (.aload_n 2, 1) := by decide +kernel
theorem dX0_init_111 : decode cX0_init 111 = .ok (.putfield 60, 3) := by decide +kernel
theorem dX0_init_114 : decode cX0_init 114 = .ok (.return_, 1) := by decide +kernel
theorem dX0_misfitOf_0 : decode cX0_misfitOf 0 = .ok (.aload_n 1, 1) := by decide +kernel
theorem dX0_misfitOf_1 : decode cX0_misfitOf 1 = .ok (.getfield 63, 3) := by decide +kernel
theorem dX0_misfitOf_4 : decode cX0_misfitOf 4 = .ok (.ifCond .ne 34, 3) := by decide +kernel
theorem dX0_misfitOf_7 : decode cX0_misfitOf 7 = .ok (.aload_n 0, 1) := by decide +kernel
theorem dX0_misfitOf_8 : decode cX0_misfitOf 8 = .ok (.getfield 60, 3) := by decide +kernel
theorem dX0_misfitOf_11 : decode cX0_misfitOf 11 = .ok (.iload_n 2, 1) := by decide +kernel
theorem dX0_misfitOf_12 : decode cX0_misfitOf 12 = .ok (.iaload, 1) := by decide +kernel
theorem dX0_misfitOf_13 : decode cX0_misfitOf 13 = .ok (.iconst (-1), 1) := by decide +kernel
theorem dX0_misfitOf_14 : decode cX0_misfitOf 14 = .ok (.if_icmp .ne 7, 3) := by decide +kernel
theorem dX0_misfitOf_17 : decode cX0_misfitOf 17 = .ok (.iconst (-1), 1) := by decide +kernel
theorem dX0_misfitOf_18 : decode cX0_misfitOf 18 = .ok (.goto 19, 3) := by decide +kernel
theorem dX0_misfitOf_21 : decode cX0_misfitOf 21 = .ok (.aload_n 0, 1) := by decide +kernel
theorem dX0_misfitOf_22 : decode cX0_misfitOf 22 = .ok (.getfield 60, 3) := by decide +kernel
theorem dX0_misfitOf_25 : decode cX0_misfitOf 25 = .ok (.iload_n 2, 1) := by decide +kernel
theorem dX0_misfitOf_26 : decode cX0_misfitOf 26 = .ok (.iaload, 1) := by decide +kernel
theorem dX0_misfitOf_27 : decode cX0_misfitOf 27 = .ok (.iload_n 3, 1) := by decide +kernel
theorem dX0_misfitOf_28 : decode cX0_misfitOf 28 = .ok (.iadd, 1) := by decide +kernel
theorem dX0_misfitOf_29 : decode cX0_misfitOf 29 = .ok (.aload_n 1, 1) := by decide +kernel
theorem dX0_misfitOf_30 : decode cX0_misfitOf 30 = .ok (.getfield 68, 3) := by decide +kernel
theorem dX0_misfitOf_33 : decode cX0_misfitOf 33 = .ok (.isub, 1) := by decide +kernel
theorem dX0_misfitOf_34 : decode cX0_misfitOf 34 = .ok (.invokestatic 71, 3) := by decide +kernel
theorem dX0_misfitOf_37 : decode cX0_misfitOf 37 = .ok (.ireturn, 1) := by decide +kernel
theorem dX0_misfitOf_38 : decode cX0_misfitOf 38 = .ok (.iconst 0, 1) := by decide +kernel
theorem dX0_misfitOf_39 : decode cX0_misfitOf 39 = .ok (.istore 4, 2) := by decide +kernel
theorem dX0_misfitOf_41 : decode cX0_misfitOf 41 = .ok (.iconst 0, 1) := by decide +kernel
theorem dX0_misfitOf_42 : decode cX0_misfitOf 42 = .ok (.istore 5, 2) := by decide +kernel
theorem dX0_misfitOf_44 : decode cX0_misfitOf 44 = .ok (.iload 5, 2) := by decide +kernel
theorem dX0_misfitOf_46 : decode cX0_misfitOf 46 = .ok (.aload_n 1, 1) := by decide +kernel
theorem dX0_misfitOf_47 : decode cX0_misfitOf 47 = .ok (.getfield 77, 3) := by decide +kernel
theorem dX0_misfitOf_50 : decode cX0_misfitOf 50 = .ok (.if_icmp .ge 73, 3) := by decide +kernel
theorem dX0_misfitOf_53 : decode cX0_misfitOf 53 = .ok (.iload 5, 2) := by decide +kernel
theorem dX0_misfitOf_55 : decode cX0_misfitOf 55 = .ok (.bipush 6, 2) := by decide +kernel
theorem dX0_misfitOf_57 : decode cX0_misfitOf 57 = .ok (.if_icmp .ge 66, 3) := by decide +kernel
theorem dX0_misfitOf_60 : decode cX0_misfitOf 60 = .ok (.iload_n 2, 1) := by decide +kernel
theorem dX0_misfitOf_61 : decode cX0_misfitOf 61 = .ok (.aload_n 1, 1) := by decide +kernel
theorem dX0_misfitOf_62 : decode cX0_misfitOf 62 = .ok (.getfield 80, 3) := by decide +kernel
theorem dX0_misfitOf_65 : decode cX0_misfitOf 65 = .ok (.iload 5, 2) := by decide +kernel
theorem dX0_misfitOf_67 : decode cX0_misfitOf 67 = .ok (.iaload, 1) := by decide +kernel
theorem dX0_misfitOf_68 : decode cX0_misfitOf 68 = .ok (.iadd, 1) := by decide +kernel
theorem dX0_misfitOf_69 : decode cX0_misfitOf 69 = .ok (.istore 6, 2) := by decide +kernel
theorem dX0_misfitOf_71 : decode cX0_misfitOf 71 = .ok (.iload 6, 2) := by decide +kernel
theorem dX0_misfitOf_73 : decode cX0_misfitOf 73 = .ok (.sipush 1000, 3) := by decide +kernel
theorem dX0_misfitOf_76 : decode cX0_misfitOf 76 = .ok (.if_icmp .ge 14, 3) := by decide +kernel
theorem dX0_misfitOf_79 : decode cX0_misfitOf 79 = .ok (.aload_n 0, 1) := by decide +kernel
theorem dX0_misfitOf_80 : decode cX0_misfitOf 80 = .ok (.getfield 60, 3) := by decide +kernel
theorem dX0_misfitOf_83 : decode cX0_misfitOf 83 = .ok (.iload 6, 2) := by decide +kernel
theorem dX0_misfitOf_85 : decode cX0_misfitOf 85 = .ok (.iaload, 1) := by decide +kernel
theorem dX0_misfitOf_86 : decode cX0_misfitOf 86 = .ok (.iconst (-1), 1) := by decide +kernel
theorem dX0_misfitOf_87 : decode cX0_misfitOf 87 = .ok (.if_icmp .ne 5, 3) := by decide +kernel
theorem dX0_misfitOf_90 : decode cX0_misfitOf 90 = .ok (.iconst (-1), 1) := by decide +kernel
theorem dX0_misfitOf_91 : decode cX0_misfitOf 91 = .ok (.ireturn, 1) := by decide +kernel
theorem dX0_misfitOf_92 : decode cX0_misfitOf 92 = .ok (.iload 4, 2) := by decide +kernel
theorem dX0_misfitOf_94 : decode cX0_misfitOf 94 = .ok (.aload_n 0, 1) := by decide +kernel
theorem dX0_misfitOf_95 : decode cX0_misfitOf 95 = .ok (.getfield 60, 3) := by decide +kernel
theorem dX0_misfitOf_98 : decode cX0_misfitOf 98 = .ok (.iload 6, 2) := by decide +kernel
theorem dX0_misfitOf_100 : decode cX0_misfitOf 100 = .ok (.iaload, 1) := by decide +kernel
theorem dX0_misfitOf_101 : decode cX0_misfitOf 101 = .ok (.iload_n 3, 1) := by decide +kernel
theorem dX0_misfitOf_102 : decode cX0_misfitOf 102 = .ok (.iadd, 1) := by decide +kernel
theorem dX0_misfitOf_103 : decode cX0_misfitOf 103 = .ok (.aload_n 1, 1) := by decide +kernel
theorem dX0_misfitOf_104 : decode cX0_misfitOf 104 = .ok (.getfield 83, 3) := by decide +kernel
theorem dX0_misfitOf_107 : decode cX0_misfitOf 107 = .ok (.iload 5, 2) := by decide +kernel
theorem dX0_misfitOf_109 : decode cX0_misfitOf 109 = .ok (.iaload, 1) := by decide +kernel
theorem dX0_misfitOf_110 : decode cX0_misfitOf 110 = .ok (.isub, 1) := by decide +kernel
theorem dX0_misfitOf_111 : decode cX0_misfitOf 111 = .ok (.invokestatic 71, 3) := by decide +kernel
theorem dX0_misfitOf_114 : decode cX0_misfitOf 114 = .ok (.iadd, 1) := by decide +kernel
theorem dX0_misfitOf_115 : decode cX0_misfitOf 115 = .ok (.istore 4, 2) := by decide +kernel
theorem dX0_misfitOf_117 : decode cX0_misfitOf 117 = .ok (.iinc 5 1, 3) := by decide +kernel
theorem dX0_misfitOf_120 : decode cX0_misfitOf 120 = .ok (.goto (-76), 3) := by decide +kernel
theorem dX0_misfitOf_123 : decode cX0_misfitOf 123 = .ok (.iload 4, 2) := by decide +kernel
theorem dX0_misfitOf_125 : decode cX0_misfitOf 125 = .ok (.ireturn, 1) := by decide +kernel
theorem dX0_layFirst_0 : decode cX0_layFirst 0 = .ok (.iconst 0, 1) := by decide +kernel
theorem dX0_layFirst_1 : decode cX0_layFirst 1 = .ok (.istore_n 3, 1) := by decide +kernel
theorem dX0_layFirst_2 : decode cX0_layFirst 2 = .ok (.iload_n 3, 1) := by decide +kernel
theorem dX0_layFirst_3 : decode cX0_layFirst 3 = .ok (.aload_n 0, 1) := by decide +kernel
theorem dX0_layFirst_4 : decode cX0_layFirst 4 = .ok (.getfield 56, 3) := by decide +kernel
theorem dX0_layFirst_7 : decode cX0_layFirst 7 = .ok (.getfield 86, 3) := by decide +kernel
theorem dX0_layFirst_10 : decode cX0_layFirst 10 = .ok (.if_icmp .ge 99, 3) := by decide +kernel
theorem dX0_layFirst_13 : decode cX0_layFirst 13 = .ok (.aload_n 0, 1) := by decide +kernel
theorem dX0_layFirst_14 : decode cX0_layFirst 14 = .ok (.getfield 56, 3) := by decide +kernel
theorem dX0_layFirst_17 : decode cX0_layFirst 17 = .ok (.getfield 91, 3) := by decide +kernel
theorem dX0_layFirst_20 : decode cX0_layFirst 20 = .ok (.iload_n 3, 1) := by decide +kernel
theorem dX0_layFirst_21 : decode cX0_layFirst 21 = .ok (.aaload, 1) := by decide +kernel
theorem dX0_layFirst_22 : decode cX0_layFirst 22 = .ok (.astore 4, 2) := by decide +kernel
theorem dX0_layFirst_24 : decode cX0_layFirst 24 = .ok (.aload_n 0, 1) := by decide +kernel
theorem dX0_layFirst_25 : decode cX0_layFirst 25 = .ok (.getfield 11, 3) := by decide +kernel
theorem dX0_layFirst_28 : decode cX0_layFirst 28 = .ok (.iload_n 3, 1) := by decide +kernel
theorem dX0_layFirst_29 : decode cX0_layFirst 29 = .ok (.aaload, 1) := by decide +kernel
theorem dX0_layFirst_30 : decode cX0_layFirst 30 = .ok (.invokestatic 95, 3) := by decide +kernel
theorem dX0_layFirst_33 : decode cX0_layFirst 33 = .ok (.aload 4, 2) := by decide +kernel
theorem dX0_layFirst_35 : decode cX0_layFirst 35 = .ok (.getfield 63, 3) := by decide +kernel
theorem dX0_layFirst_38 : decode cX0_layFirst 38 = .ok (.ifCond .eq 26, 3) := by decide +kernel
theorem dX0_layFirst_41 : decode cX0_layFirst 41 = .ok (.aload_n 0, 1) := by decide +kernel
theorem dX0_layFirst_42 : decode cX0_layFirst 42 = .ok (.aload 4, 2) := by decide +kernel
theorem dX0_layFirst_44 : decode cX0_layFirst 44 = .ok (.aload_n 0, 1) := by decide +kernel
theorem dX0_layFirst_45 : decode cX0_layFirst 45 = .ok (.getfield 11, 3) := by decide +kernel
theorem dX0_layFirst_48 : decode cX0_layFirst 48 = .ok (.iload_n 3, 1) := by decide +kernel
theorem dX0_layFirst_49 : decode cX0_layFirst 49 = .ok (.aaload, 1) := by decide +kernel
theorem dX0_layFirst_50 : decode cX0_layFirst 50 = .ok (.iload_n 1, 1) := by decide +kernel
theorem dX0_layFirst_51 : decode cX0_layFirst 51 = .ok (.aload 4, 2) := by decide +kernel
theorem dX0_layFirst_53 : decode cX0_layFirst 53 = .ok (.getfield 68, 3) := by decide +kernel
theorem dX0_layFirst_56 : decode cX0_layFirst 56 = .ok (.imul, 1) := by decide +kernel
theorem dX0_layFirst_57 : decode cX0_layFirst 57 = .ok (.iload_n 2, 1) := by decide +kernel
theorem dX0_layFirst_58 : decode cX0_layFirst 58 = .ok (.invokevirtual 101, 3) := by decide +kernel
theorem dX0_layFirst_61 : decode cX0_layFirst 61 = .ok (.goto 42, 3) := by decide +kernel
theorem dX0_layFirst_64 : decode cX0_layFirst 64 = .ok (.aload 4, 2) := by decide +kernel
theorem dX0_layFirst_66 : decode cX0_layFirst 66 = .ok (.getfield 68, 3) := by decide +kernel
theorem dX0_layFirst_69 : decode cX0_layFirst 69 = .ok (.iload_n 2, 1) := by decide +kernel
theorem dX0_layFirst_70 : decode cX0_layFirst 70 = .ok (.isub, 1) := by decide +kernel
theorem dX0_layFirst_71 : decode cX0_layFirst 71 = .ok (.istore 5, 2) := by decide +kernel
theorem dX0_layFirst_73 : decode cX0_layFirst 73 = .ok (.aload_n 0, 1) := by decide +kernel
theorem dX0_layFirst_74 : decode cX0_layFirst 74 = .ok (.aload_n 0, 1) := by decide +kernel
theorem dX0_layFirst_75 : decode cX0_layFirst 75 = .ok (.getfield 11, 3) := by decide +kernel
theorem dX0_layFirst_78 : decode cX0_layFirst 78 = .ok (.iload_n 3, 1) := by decide +kernel
theorem dX0_layFirst_79 : decode cX0_layFirst 79 = .ok (.aaload, 1) := by decide +kernel
theorem dX0_layFirst_80 : decode cX0_layFirst 80 = .ok (.iload 5, 2) := by decide +kernel
theorem dX0_layFirst_82 : decode cX0_layFirst 82 = .ok (.iload_n 1, 1) := by decide +kernel
theorem dX0_layFirst_83 : decode cX0_layFirst 83 = .ok (.aload 4, 2) := by decide +kernel
theorem dX0_layFirst_85 : decode cX0_layFirst 85 = .ok (.getfield 77, 3) := by decide +kernel
theorem dX0_layFirst_88 : decode cX0_layFirst 88 = .ok (.imul, 1) := by decide +kernel
theorem dX0_layFirst_89 : decode cX0_layFirst 89 = .ok (.isub, 1) := by decide +kernel
theorem dX0_layFirst_90 : decode cX0_layFirst 90 = .ok (.iload 5, 2) := by decide +kernel
theorem dX0_layFirst_92 : decode cX0_layFirst 92 = .ok (.iload_n 1, 1) := by decide +kernel
theorem dX0_layFirst_93 : decode cX0_layFirst 93 = .ok (.aload 4, 2) := by decide +kernel
theorem dX0_layFirst_95 : decode cX0_layFirst 95 = .ok (.getfield 77, 3) := by decide +kernel
theorem dX0_layFirst_98 : decode cX0_layFirst 98 = .ok (.imul, 1) := by decide +kernel
theorem dX0_layFirst_99 : decode cX0_layFirst 99 = .ok (.iadd, 1) := by decide +kernel
theorem dX0_layFirst_100 : decode cX0_layFirst 100 = .ok (.invokevirtual 105, 3) := by decide +kernel
theorem dX0_layFirst_103 : decode cX0_layFirst 103 = .ok (.iinc 3 1, 3) := by decide +kernel
theorem dX0_layFirst_106 : decode cX0_layFirst 106 = .ok (.goto (-104), 3) := by decide +kernel
theorem dX0_layFirst_109 : decode cX0_layFirst 109 = .ok (.return_, 1) := by decide +kernel
theorem dX0_openAll_0 : decode cX0_openAll 0 = .ok (.iconst 0, 1) := by decide +kernel
theorem dX0_openAll_1 : decode cX0_openAll 1 = .ok (.istore_n 1, 1) := by decide +kernel
theorem dX0_openAll_2 : decode cX0_openAll 2 = .ok (.iload_n 1, 1) := by decide +kernel
theorem dX0_openAll_3 : decode cX0_openAll 3 = .ok (.aload_n 0, 1) := by decide +kernel
theorem dX0_openAll_4 : decode cX0_openAll 4 = .ok (.getfield 56, 3) := by decide +kernel
theorem dX0_openAll_7 : decode cX0_openAll 7 = .ok (.getfield 86, 3) := by decide +kernel
theorem dX0_openAll_10 : decode cX0_openAll 10 = .ok (.if_icmp .ge 22, 3) := by decide +kernel
theorem dX0_openAll_13 : decode cX0_openAll 13 = .ok (.aload_n 0, 1) := by decide +kernel
theorem dX0_openAll_14 : decode cX0_openAll 14 = .ok (.getfield 11, 3) := by decide +kernel
theorem dX0_openAll_17 : decode cX0_openAll 17 = .ok (.iload_n 1, 1) := by decide +kernel
theorem dX0_openAll_18 : decode cX0_openAll 18 = .ok (.aaload, 1) := by decide +kernel
theorem dX0_openAll_19 : decode cX0_openAll 19 = .ok (.iconst 0, 1) := by decide +kernel
theorem dX0_openAll_20 : decode cX0_openAll 20 = .ok (.sipush 999, 3) := by decide +kernel
theorem dX0_openAll_23 : decode cX0_openAll 23 = .ok (.invokestatic 109, 3) := by decide +kernel
theorem dX0_openAll_26 : decode cX0_openAll 26 = .ok (.iinc 1 1, 3) := by decide +kernel
theorem dX0_openAll_29 : decode cX0_openAll 29 = .ok (.goto (-27), 3) := by decide +kernel
theorem dX0_openAll_32 : decode cX0_openAll 32 = .ok (.return_, 1) := by decide +kernel
theorem dX0_takeFirst_0 : decode cX0_takeFirst 0 = .ok (.iconst 0, 1) := by decide +kernel
theorem dX0_takeFirst_1 : decode cX0_takeFirst 1 = .ok (.istore_n 2, 1) := by decide +kernel
theorem dX0_takeFirst_2 : decode cX0_takeFirst 2 = .ok (.iload_n 2, 1) := by decide +kernel
theorem dX0_takeFirst_3 : decode cX0_takeFirst 3 = .ok (.aload_n 0, 1) := by decide +kernel
theorem dX0_takeFirst_4 : decode cX0_takeFirst 4 = .ok (.getfield 56, 3) := by decide +kernel
theorem dX0_takeFirst_7 : decode cX0_takeFirst 7 = .ok (.getfield 86, 3) := by decide +kernel
theorem dX0_takeFirst_10 : decode cX0_takeFirst 10 = .ok (.if_icmp .ge 28, 3) := by decide +kernel
theorem dX0_takeFirst_13 : decode cX0_takeFirst 13 = .ok (.aload_n 1, 1) := by decide +kernel
theorem dX0_takeFirst_14 : decode cX0_takeFirst 14 = .ok (.getfield 11, 3) := by decide +kernel
theorem dX0_takeFirst_17 : decode cX0_takeFirst 17 = .ok (.iload_n 2, 1) := by decide +kernel
theorem dX0_takeFirst_18 : decode cX0_takeFirst 18 = .ok (.aaload, 1) := by decide +kernel
theorem dX0_takeFirst_19 : decode cX0_takeFirst 19 = .ok (.iconst 0, 1) := by decide +kernel
theorem dX0_takeFirst_20 : decode cX0_takeFirst 20 = .ok (.aload_n 0, 1) := by decide +kernel
theorem dX0_takeFirst_21 : decode cX0_takeFirst 21 = .ok (.getfield 11, 3) := by decide +kernel
theorem dX0_takeFirst_24 : decode cX0_takeFirst 24 = .ok (.iload_n 2, 1) := by decide +kernel
theorem dX0_takeFirst_25 : decode cX0_takeFirst 25 = .ok (.aaload, 1) := by decide +kernel
theorem dX0_takeFirst_26 : decode cX0_takeFirst 26 = .ok (.iconst 0, 1) := by decide +kernel
theorem dX0_takeFirst_27 : decode cX0_takeFirst 27 = .ok (.bipush 16, 2) := by decide +kernel
theorem dX0_takeFirst_29 : decode cX0_takeFirst 29 = .ok (.invokestatic 112, 3) := by decide +kernel
theorem dX0_takeFirst_32 : decode cX0_takeFirst 32 = .ok (.iinc 2 1, 3) := by decide +kernel
theorem dX0_takeFirst_35 : decode cX0_takeFirst 35 = .ok (.goto (-33), 3) := by decide +kernel
theorem dX0_takeFirst_38 : decode cX0_takeFirst 38 = .ok (.return_, 1) := by decide +kernel
theorem dX0_takeSpans_0 : decode cX0_takeSpans 0 = .ok (.iconst 0, 1) := by decide +kernel
theorem dX0_takeSpans_1 : decode cX0_takeSpans 1 = .ok (.istore_n 2, 1) := by decide +kernel
theorem dX0_takeSpans_2 : decode cX0_takeSpans 2 = .ok (.iload_n 2, 1) := by decide +kernel
theorem dX0_takeSpans_3 : decode cX0_takeSpans 3 = .ok (.aload_n 0, 1) := by decide +kernel
theorem dX0_takeSpans_4 : decode cX0_takeSpans 4 = .ok (.getfield 56, 3) := by decide +kernel
theorem dX0_takeSpans_7 : decode cX0_takeSpans 7 = .ok (.getfield 86, 3) := by decide +kernel
theorem dX0_takeSpans_10 : decode cX0_takeSpans 10 = .ok (.if_icmp .ge 28, 3) := by decide +kernel
theorem dX0_takeSpans_13 : decode cX0_takeSpans 13 = .ok (.aload_n 1, 1) := by decide +kernel
theorem dX0_takeSpans_14 : decode cX0_takeSpans 14 = .ok (.getfield 16, 3) := by decide +kernel
theorem dX0_takeSpans_17 : decode cX0_takeSpans 17 = .ok (.iload_n 2, 1) := by decide +kernel
theorem dX0_takeSpans_18 : decode cX0_takeSpans 18 = .ok (.aaload, 1) := by decide +kernel
theorem dX0_takeSpans_19 : decode cX0_takeSpans 19 = .ok (.iconst 0, 1) := by decide +kernel
theorem dX0_takeSpans_20 : decode cX0_takeSpans 20 = .ok (.aload_n 0, 1) := by decide +kernel
theorem dX0_takeSpans_21 : decode cX0_takeSpans 21 = .ok (.getfield 11, 3) := by decide +kernel
theorem dX0_takeSpans_24 : decode cX0_takeSpans 24 = .ok (.iload_n 2, 1) := by decide +kernel
theorem dX0_takeSpans_25 : decode cX0_takeSpans 25 = .ok (.aaload, 1) := by decide +kernel
theorem dX0_takeSpans_26 : decode cX0_takeSpans 26 = .ok (.iconst 0, 1) := by decide +kernel
theorem dX0_takeSpans_27 : decode cX0_takeSpans 27 = .ok (.bipush 16, 2) := by decide +kernel
theorem dX0_takeSpans_29 : decode cX0_takeSpans 29 = .ok (.invokestatic 112, 3) := by decide +kernel
theorem dX0_takeSpans_32 : decode cX0_takeSpans 32 = .ok (.iinc 2 1, 3) := by decide +kernel
theorem dX0_takeSpans_35 : decode cX0_takeSpans 35 = .ok (.goto (-33), 3) := by decide +kernel
theorem dX0_takeSpans_38 : decode cX0_takeSpans 38 = .ok (.return_, 1) := by decide +kernel
theorem dX0_pin_0 : decode cX0_pin 0 = .ok (.aload_n 0, 1) := by decide +kernel
theorem dX0_pin_1 : decode cX0_pin 1 = .ok (.getfield 11, 3) := by decide +kernel
theorem dX0_pin_4 : decode cX0_pin 4 = .ok (.iload_n 1, 1) := by decide +kernel
theorem dX0_pin_5 : decode cX0_pin 5 = .ok (.aaload, 1) := by decide +kernel
theorem dX0_pin_6 : decode cX0_pin 6 = .ok (.invokestatic 95, 3) := by decide +kernel
theorem dX0_pin_9 : decode cX0_pin 9 = .ok (.aload_n 0, 1) := by decide +kernel
theorem dX0_pin_10 : decode cX0_pin 10 = .ok (.getfield 11, 3) := by decide +kernel
theorem dX0_pin_13 : decode cX0_pin 13 = .ok (.iload_n 1, 1) := by decide +kernel
theorem dX0_pin_14 : decode cX0_pin 14 = .ok (.aaload, 1) := by decide +kernel
theorem dX0_pin_15 : decode cX0_pin 15 = .ok (.iload_n 2, 1) := by decide +kernel
theorem dX0_pin_16 : decode cX0_pin 16 = .ok (.invokestatic 118, 3) := by decide +kernel
theorem dX0_pin_19 : decode cX0_pin 19 = .ok (.return_, 1) := by decide +kernel
theorem dX0_run_0 : decode cX0_run 0 = .ok (.aload_n 0, 1) := by decide +kernel
theorem dX0_run_1 : decode cX0_run 1 = .ok (.invokevirtual 122, 3) := by decide +kernel
theorem dX0_run_4 : decode cX0_run 4 = .ok (.aload_n 0, 1) := by decide +kernel
theorem dX0_run_5 : decode cX0_run 5 = .ok (.iconst 1, 1) := by decide +kernel
theorem dX0_run_6 : decode cX0_run 6 = .ok (.putfield 52, 3) := by decide +kernel
theorem dX0_run_9 : decode cX0_run 9 = .ok (.iconst 1, 1) := by decide +kernel
theorem dX0_run_10 : decode cX0_run 10 = .ok (.istore_n 3, 1) := by decide +kernel
theorem dX0_run_11 : decode cX0_run 11 = .ok (.iload_n 3, 1) := by decide +kernel
theorem dX0_run_12 : decode cX0_run 12 = .ok (.sipush 12001, 3) := by decide +kernel
theorem dX0_run_15 : decode cX0_run 15 = .ok (.if_icmp .gt 85, 3) := by decide +kernel
theorem dX0_run_18 : decode cX0_run 18 = .ok (.aload_n 0, 1) := by decide +kernel
theorem dX0_run_19 : decode cX0_run 19 = .ok (.getfield 52, 3) := by decide +kernel
theorem dX0_run_22 : decode cX0_run 22 = .ok (.ifCond .eq 78, 3) := by decide +kernel
theorem dX0_run_25 : decode cX0_run 25 = .ok (.aload_n 0, 1) := by decide +kernel
theorem dX0_run_26 : decode cX0_run 26 = .ok (.iload_n 3, 1) := by decide +kernel
theorem dX0_run_27 : decode cX0_run 27 = .ok (.putfield 32, 3) := by decide +kernel
theorem dX0_run_30 : decode cX0_run 30 = .ok (.aload_n 0, 1) := by decide +kernel
theorem dX0_run_31 : decode cX0_run 31 = .ok (.iconst 0, 1) := by decide +kernel
theorem dX0_run_32 : decode cX0_run 32 = .ok (.putfield 52, 3) := by decide +kernel
theorem dX0_run_35 : decode cX0_run 35 = .ok (.iconst 0, 1) := by decide +kernel
theorem dX0_run_36 : decode cX0_run 36 = .ok (.istore 4, 2) := by decide +kernel
theorem dX0_run_38 : decode cX0_run 38 = .ok (.iload 4, 2) := by decide +kernel
theorem dX0_run_40 : decode cX0_run 40 = .ok (.aload_n 0, 1) := by decide +kernel
theorem dX0_run_41 : decode cX0_run 41 = .ok (.getfield 56, 3) := by decide +kernel
theorem dX0_run_44 : decode cX0_run 44 = .ok (.getfield 125, 3) := by decide +kernel
theorem dX0_run_47 : decode cX0_run 47 = .ok (.if_icmp .ge 47, 3) := by decide +kernel
theorem dX0_run_50 : decode cX0_run 50 = .ok (.iload_n 2, 1) := by decide +kernel
theorem dX0_run_51 : decode cX0_run 51 = .ok (.ifCond .eq 11, 3) := by decide +kernel
theorem dX0_run_54 : decode cX0_run 54 = .ok (.aload_n 0, 1) := by decide +kernel
theorem dX0_run_55 : decode cX0_run 55 = .ok (.invokevirtual 128, 3) := by decide +kernel
theorem dX0_run_58 : decode cX0_run 58 = .ok (.ifCond .eq 4, 3) := by decide +kernel
theorem dX0_run_61 : decode cX0_run 61 = .ok (.return_, 1) := by decide +kernel
theorem dX0_run_62 : decode cX0_run 62 = .ok (.iload 4, 2) := by decide +kernel
theorem dX0_run_64 : decode cX0_run 64 = .ok (.iload_n 1, 1) := by decide +kernel
theorem dX0_run_65 : decode cX0_run 65 = .ok (.if_icmp .eq 23, 3) := by decide +kernel
theorem dX0_run_68 : decode cX0_run 68 = .ok (.aload_n 0, 1) := by decide +kernel
theorem dX0_run_69 : decode cX0_run 69 = .ok (.iload 4, 2) := by decide +kernel
theorem dX0_run_71 : decode cX0_run 71 = .ok (.putfield 49, 3) := by decide +kernel
theorem dX0_run_74 : decode cX0_run 74 = .ok (.aload_n 0, 1) := by decide +kernel
theorem dX0_run_75 : decode cX0_run 75 = .ok (.aload_n 0, 1) := by decide +kernel
theorem dX0_run_76 : decode cX0_run 76 = .ok (.getfield 56, 3) := by decide +kernel
theorem dX0_run_79 : decode cX0_run 79 = .ok (.getfield 132, 3) := by decide +kernel
theorem dX0_run_82 : decode cX0_run 82 = .ok (.iload 4, 2) := by decide +kernel
theorem dX0_run_84 : decode cX0_run 84 = .ok (.aaload, 1) := by decide +kernel
theorem dX0_run_85 : decode cX0_run 85 = .ok (.invokevirtual 136, 3) := by decide +kernel
theorem dX0_run_88 : decode cX0_run 88 = .ok (.iinc 4 1, 3) := by decide +kernel
theorem dX0_run_91 : decode cX0_run 91 = .ok (.goto (-53), 3) := by decide +kernel
theorem dX0_run_94 : decode cX0_run 94 = .ok (.iinc 3 1, 3) := by decide +kernel
theorem dX0_run_97 : decode cX0_run 97 = .ok (.goto (-86), 3) := by decide +kernel
theorem dX0_run_100 : decode cX0_run 100 = .ok (.return_, 1) := by decide +kernel
theorem dX0_hasClash_0 : decode cX0_hasClash 0 = .ok (.aload_n 0, 1) := by decide +kernel
theorem dX0_hasClash_1 : decode cX0_hasClash 1 = .ok (.getfield 39, 3) := by decide +kernel
theorem dX0_hasClash_4 : decode cX0_hasClash 4 = .ok (.bipush (-2), 2) := by decide +kernel
theorem dX0_hasClash_6 : decode cX0_hasClash 6 = .ok (.if_icmp .eq 7, 3) := by decide +kernel
theorem dX0_hasClash_9 : decode cX0_hasClash 9 = .ok (.iconst 1, 1) := by decide +kernel
theorem dX0_hasClash_10 : decode cX0_hasClash 10 = .ok (.goto 4, 3) := by decide +kernel
theorem dX0_hasClash_13 : decode cX0_hasClash 13 = .ok (.iconst 0, 1) := by decide +kernel
theorem dX0_hasClash_14 : decode cX0_hasClash 14 = .ok (.ireturn, 1) := by decide +kernel
theorem dX0_sameSpans_0 : decode cX0_sameSpans 0 = .ok (.iconst 0, 1) := by decide +kernel
theorem dX0_sameSpans_1 : decode cX0_sameSpans 1 = .ok (.istore_n 2, 1) := by decide +kernel
theorem dX0_sameSpans_2 : decode cX0_sameSpans 2 = .ok (.iload_n 2, 1) := by decide +kernel
theorem dX0_sameSpans_3 : decode cX0_sameSpans 3 = .ok (.aload_n 0, 1) := by decide +kernel
theorem dX0_sameSpans_4 : decode cX0_sameSpans 4 = .ok (.getfield 56, 3) := by decide +kernel
theorem dX0_sameSpans_7 : decode cX0_sameSpans 7 = .ok (.getfield 86, 3) := by decide +kernel
theorem dX0_sameSpans_10 : decode cX0_sameSpans 10 = .ok (.if_icmp .ge 45, 3) := by decide +kernel
theorem dX0_sameSpans_13 : decode cX0_sameSpans 13 = .ok (.iconst 0, 1) := by decide +kernel
theorem dX0_sameSpans_14 : decode cX0_sameSpans 14 = .ok (.istore_n 3, 1) := by decide +kernel
theorem dX0_sameSpans_15 : decode cX0_sameSpans 15 = .ok (.iload_n 3, 1) := by decide +kernel
theorem dX0_sameSpans_16 : decode cX0_sameSpans 16 = .ok (.bipush 16, 2) := by decide +kernel
theorem dX0_sameSpans_18 : decode cX0_sameSpans 18 = .ok (.if_icmp .ge 31, 3) := by decide +kernel
theorem dX0_sameSpans_21 : decode cX0_sameSpans 21 = .ok (.aload_n 0, 1) := by decide +kernel
theorem dX0_sameSpans_22 : decode cX0_sameSpans 22 = .ok (.getfield 16, 3) := by decide +kernel
theorem dX0_sameSpans_25 : decode cX0_sameSpans 25 = .ok (.iload_n 2, 1) := by decide +kernel
theorem dX0_sameSpans_26 : decode cX0_sameSpans 26 = .ok (.aaload, 1) := by decide +kernel
theorem dX0_sameSpans_27 : decode cX0_sameSpans 27 = .ok (.iload_n 3, 1) := by decide +kernel
theorem dX0_sameSpans_28 : decode cX0_sameSpans 28 = .ok (.laload, 1) := by decide +kernel
theorem dX0_sameSpans_29 : decode cX0_sameSpans 29 = .ok (.aload_n 1, 1) := by decide +kernel
theorem dX0_sameSpans_30 : decode cX0_sameSpans 30 = .ok (.getfield 16, 3) := by decide +kernel
theorem dX0_sameSpans_33 : decode cX0_sameSpans 33 = .ok (.iload_n 2, 1) := by decide +kernel
theorem dX0_sameSpans_34 : decode cX0_sameSpans 34 = .ok (.aaload, 1) := by decide +kernel
theorem dX0_sameSpans_35 : decode cX0_sameSpans 35 = .ok (.iload_n 3, 1) := by decide +kernel
theorem dX0_sameSpans_36 : decode cX0_sameSpans 36 = .ok (.laload, 1) := by decide +kernel
theorem dX0_sameSpans_37 : decode cX0_sameSpans 37 = .ok (.lcmp, 1) := by decide +kernel
theorem dX0_sameSpans_38 : decode cX0_sameSpans 38 = .ok (.ifCond .eq 5, 3) := by decide +kernel
theorem dX0_sameSpans_41 : decode cX0_sameSpans 41 = .ok (.iconst 0, 1) := by decide +kernel
theorem dX0_sameSpans_42 : decode cX0_sameSpans 42 = .ok (.ireturn, 1) := by decide +kernel
theorem dX0_sameSpans_43 : decode cX0_sameSpans 43 = .ok (.iinc 3 1, 3) := by decide +kernel
theorem dX0_sameSpans_46 : decode cX0_sameSpans 46 = .ok (.goto (-31), 3) := by decide +kernel
theorem dX0_sameSpans_49 : decode cX0_sameSpans 49 = .ok (.iinc 2 1, 3) := by decide +kernel
theorem dX0_sameSpans_52 : decode cX0_sameSpans 52 = .ok (.goto (-50), 3) := by decide +kernel
theorem dX0_sameSpans_55 : decode cX0_sameSpans 55 = .ok (.iconst 1, 1) := by decide +kernel
theorem dX0_sameSpans_56 : decode cX0_sameSpans 56 = .ok (.ireturn, 1) := by decide +kernel
theorem dX0_yearsOfAll_0 : decode cX0_yearsOfAll 0 = .ok (.iconst 0, 1) := by decide +kernel
theorem dX0_yearsOfAll_1 : decode cX0_yearsOfAll 1 = .ok (.istore_n 1, 1) := by decide +kernel
theorem dX0_yearsOfAll_2 : decode cX0_yearsOfAll 2 = .ok (.iconst 0, 1) := by decide +kernel
theorem dX0_yearsOfAll_3 : decode cX0_yearsOfAll 3 = .ok (.istore_n 2, 1) := by decide +kernel
theorem dX0_yearsOfAll_4 : decode cX0_yearsOfAll 4 = .ok (.iload_n 2, 1) := by decide +kernel
theorem dX0_yearsOfAll_5 : decode cX0_yearsOfAll 5 = .ok (.aload_n 0, 1) := by decide +kernel
theorem dX0_yearsOfAll_6 : decode cX0_yearsOfAll 6 = .ok (.getfield 56, 3) := by decide +kernel
theorem dX0_yearsOfAll_9 : decode cX0_yearsOfAll 9 = .ok (.getfield 86, 3) := by decide +kernel
theorem dX0_yearsOfAll_12 : decode cX0_yearsOfAll 12 = .ok (.if_icmp .ge 18, 3) := by decide +kernel
theorem dX0_yearsOfAll_15 : decode cX0_yearsOfAll 15 = .ok (.iload_n 1, 1) := by decide +kernel
theorem dX0_yearsOfAll_16 : decode cX0_yearsOfAll 16 = .ok (.aload_n 0, 1) := by decide +kernel
theorem dX0_yearsOfAll_17 : decode cX0_yearsOfAll 17 = .ok (.getfield 19, 3) := by decide +kernel
theorem dX0_yearsOfAll_20 : decode cX0_yearsOfAll 20 = .ok (.iload_n 2, 1) := by decide +kernel
theorem dX0_yearsOfAll_21 : decode cX0_yearsOfAll 21 = .ok (.iaload, 1) := by decide +kernel
theorem dX0_yearsOfAll_22 : decode cX0_yearsOfAll 22 = .ok (.iadd, 1) := by decide +kernel
theorem dX0_yearsOfAll_23 : decode cX0_yearsOfAll 23 = .ok (.istore_n 1, 1) := by decide +kernel
theorem dX0_yearsOfAll_24 : decode cX0_yearsOfAll 24 = .ok (.iinc 2 1, 3) := by decide +kernel
theorem dX0_yearsOfAll_27 : decode cX0_yearsOfAll 27 = .ok (.goto (-23), 3) := by decide +kernel
theorem dX0_yearsOfAll_30 : decode cX0_yearsOfAll 30 = .ok (.iload_n 1, 1) := by decide +kernel
theorem dX0_yearsOfAll_31 : decode cX0_yearsOfAll 31 = .ok (.ireturn, 1) := by decide +kernel
theorem dX0_emptySpans_0 : decode cX0_emptySpans 0 = .ok (.iconst 0, 1) := by decide +kernel
theorem dX0_emptySpans_1 : decode cX0_emptySpans 1 = .ok (.istore_n 1, 1) := by decide +kernel
theorem dX0_emptySpans_2 : decode cX0_emptySpans 2 = .ok (.iconst 0, 1) := by decide +kernel
theorem dX0_emptySpans_3 : decode cX0_emptySpans 3 = .ok (.istore_n 2, 1) := by decide +kernel
theorem dX0_emptySpans_4 : decode cX0_emptySpans 4 = .ok (.iload_n 2, 1) := by decide +kernel
theorem dX0_emptySpans_5 : decode cX0_emptySpans 5 = .ok (.aload_n 0, 1) := by decide +kernel
theorem dX0_emptySpans_6 : decode cX0_emptySpans 6 = .ok (.getfield 56, 3) := by decide +kernel
theorem dX0_emptySpans_9 : decode cX0_emptySpans 9 = .ok (.getfield 86, 3) := by decide +kernel
theorem dX0_emptySpans_12 : decode cX0_emptySpans 12 = .ok (.if_icmp .ge 26, 3) := by decide +kernel
theorem dX0_emptySpans_15 : decode cX0_emptySpans 15 = .ok (.iload_n 1, 1) := by decide +kernel
theorem dX0_emptySpans_16 : decode cX0_emptySpans 16 = .ok (.aload_n 0, 1) := by decide +kernel
theorem dX0_emptySpans_17 : decode cX0_emptySpans 17 = .ok (.getfield 19, 3) := by decide +kernel
theorem dX0_emptySpans_20 : decode cX0_emptySpans 20 = .ok (.iload_n 2, 1) := by decide +kernel
theorem dX0_emptySpans_21 : decode cX0_emptySpans 21 = .ok (.iaload, 1) := by decide +kernel
theorem dX0_emptySpans_22 : decode cX0_emptySpans 22 = .ok (.ifCond .ne 7, 3) := by decide +kernel
theorem dX0_emptySpans_25 : decode cX0_emptySpans 25 = .ok (.iconst 1, 1) := by decide +kernel
theorem dX0_emptySpans_26 : decode cX0_emptySpans 26 = .ok (.goto 4, 3) := by decide +kernel
theorem dX0_emptySpans_29 : decode cX0_emptySpans 29 = .ok (.iconst 0, 1) := by decide +kernel
theorem dX0_emptySpans_30 : decode cX0_emptySpans 30 = .ok (.iadd, 1) := by decide +kernel
theorem dX0_emptySpans_31 : decode cX0_emptySpans 31 = .ok (.istore_n 1, 1) := by decide +kernel
theorem dX0_emptySpans_32 : decode cX0_emptySpans 32 = .ok (.iinc 2 1, 3) := by decide +kernel
theorem dX0_emptySpans_35 : decode cX0_emptySpans 35 = .ok (.goto (-31), 3) := by decide +kernel
theorem dX0_emptySpans_38 : decode cX0_emptySpans 38 = .ok (.iload_n 1, 1) := by decide +kernel
theorem dX0_emptySpans_39 : decode cX0_emptySpans 39 = .ok (.ireturn, 1) := by decide +kernel
theorem dX0_goneOfAll_0 : decode cX0_goneOfAll 0 = .ok (.iconst 0, 1) := by decide +kernel
theorem dX0_goneOfAll_1 : decode cX0_goneOfAll 1 = .ok (.istore_n 1, 1) := by decide +kernel
theorem dX0_goneOfAll_2 : decode cX0_goneOfAll 2 = .ok (.iconst 0, 1) := by decide +kernel
theorem dX0_goneOfAll_3 : decode cX0_goneOfAll 3 = .ok (.istore_n 2, 1) := by decide +kernel
theorem dX0_goneOfAll_4 : decode cX0_goneOfAll 4 = .ok (.iload_n 2, 1) := by decide +kernel
theorem dX0_goneOfAll_5 : decode cX0_goneOfAll 5 = .ok (.aload_n 0, 1) := by decide +kernel
theorem dX0_goneOfAll_6 : decode cX0_goneOfAll 6 = .ok (.getfield 56, 3) := by decide +kernel
theorem dX0_goneOfAll_9 : decode cX0_goneOfAll 9 = .ok (.getfield 125, 3) := by decide +kernel
theorem dX0_goneOfAll_12 : decode cX0_goneOfAll 12 = .ok (.if_icmp .ge 18, 3) := by decide +kernel
theorem dX0_goneOfAll_15 : decode cX0_goneOfAll 15 = .ok (.iload_n 1, 1) := by decide +kernel
theorem dX0_goneOfAll_16 : decode cX0_goneOfAll 16 = .ok (.aload_n 0, 1) := by decide +kernel
theorem dX0_goneOfAll_17 : decode cX0_goneOfAll 17 = .ok (.getfield 29, 3) := by decide +kernel
theorem dX0_goneOfAll_20 : decode cX0_goneOfAll 20 = .ok (.iload_n 2, 1) := by decide +kernel
theorem dX0_goneOfAll_21 : decode cX0_goneOfAll 21 = .ok (.iaload, 1) := by decide +kernel
theorem dX0_goneOfAll_22 : decode cX0_goneOfAll 22 = .ok (.iadd, 1) := by decide +kernel
theorem dX0_goneOfAll_23 : decode cX0_goneOfAll 23 = .ok (.istore_n 1, 1) := by decide +kernel
theorem dX0_goneOfAll_24 : decode cX0_goneOfAll 24 = .ok (.iinc 2 1, 3) := by decide +kernel
theorem dX0_goneOfAll_27 : decode cX0_goneOfAll 27 = .ok (.goto (-23), 3) := by decide +kernel
theorem dX0_goneOfAll_30 : decode cX0_goneOfAll 30 = .ok (.iload_n 1, 1) := by decide +kernel
theorem dX0_goneOfAll_31 : decode cX0_goneOfAll 31 = .ok (.ireturn, 1) := by decide +kernel
theorem dX0_bestYear_0 : decode cX0_bestYear 0 = .ok (.iconst (-1), 1) := by decide +kernel
theorem dX0_bestYear_1 : decode cX0_bestYear 1 = .ok (.istore_n 2, 1) := by decide +kernel
theorem dX0_bestYear_2 : decode cX0_bestYear 2 = .ok (.iconst 0, 1) := by decide +kernel
theorem dX0_bestYear_3 : decode cX0_bestYear 3 = .ok (.istore_n 3, 1) := by decide +kernel
theorem dX0_bestYear_4 : decode cX0_bestYear 4 = .ok (.aload_n 0, 1) := by decide +kernel
theorem dX0_bestYear_5 : decode cX0_bestYear 5 = .ok (.getfield 16, 3) := by decide +kernel
theorem dX0_bestYear_8 : decode cX0_bestYear 8 = .ok (.iload_n 1, 1) := by decide +kernel
theorem dX0_bestYear_9 : decode cX0_bestYear 9 = .ok (.aaload, 1) := by decide +kernel
theorem dX0_bestYear_10 : decode cX0_bestYear 10 = .ok (.iconst 0, 1) := by decide +kernel
theorem dX0_bestYear_11 : decode cX0_bestYear 11 = .ok (.invokestatic 140, 3) := by decide +kernel
theorem dX0_bestYear_14 : decode cX0_bestYear 14 = .ok (.istore 4, 2) := by decide +kernel
theorem dX0_bestYear_16 : decode cX0_bestYear 16 = .ok (.iconst 0, 1) := by decide +kernel
theorem dX0_bestYear_17 : decode cX0_bestYear 17 = .ok (.istore 5, 2) := by decide +kernel
theorem dX0_bestYear_19 : decode cX0_bestYear 19 = .ok (.iload 5, 2) := by decide +kernel
theorem dX0_bestYear_21 : decode cX0_bestYear 21 = .ok (.sipush 1000, 3) := by decide +kernel
theorem dX0_bestYear_24 : decode cX0_bestYear 24 = .ok (.if_icmp .ge 73, 3) := by decide +kernel
theorem dX0_bestYear_27 : decode cX0_bestYear 27 = .ok (.iload 4, 2) := by decide +kernel
theorem dX0_bestYear_29 : decode cX0_bestYear 29 = .ok (.sipush 1000, 3) := by decide +kernel
theorem dX0_bestYear_32 : decode cX0_bestYear 32 = .ok (.if_icmp .ge 65, 3) := by decide +kernel
theorem dX0_bestYear_35 : decode cX0_bestYear 35 = .ok (.aload_n 0, 1) := by decide +kernel
theorem dX0_bestYear_36 : decode cX0_bestYear 36 = .ok (.aload_n 0, 1) := by decide +kernel
theorem dX0_bestYear_37 : decode cX0_bestYear 37 = .ok (.getfield 56, 3) := by decide +kernel
theorem dX0_bestYear_40 : decode cX0_bestYear 40 = .ok (.getfield 91, 3) := by decide +kernel
theorem dX0_bestYear_43 : decode cX0_bestYear 43 = .ok (.iload_n 1, 1) := by decide +kernel
theorem dX0_bestYear_44 : decode cX0_bestYear 44 = .ok (.aaload, 1) := by decide +kernel
theorem dX0_bestYear_45 : decode cX0_bestYear 45 = .ok (.iload 4, 2) := by decide +kernel
theorem dX0_bestYear_47 : decode cX0_bestYear 47 = .ok (.aload_n 0, 1) := by decide +kernel
theorem dX0_bestYear_48 : decode cX0_bestYear 48 = .ok (.getfield 56, 3) := by decide +kernel
theorem dX0_bestYear_51 : decode cX0_bestYear 51 = .ok (.getfield 144, 3) := by decide +kernel
theorem dX0_bestYear_54 : decode cX0_bestYear 54 = .ok (.invokevirtual 147, 3) := by decide +kernel
theorem dX0_bestYear_57 : decode cX0_bestYear 57 = .ok (.istore 6, 2) := by decide +kernel
theorem dX0_bestYear_59 : decode cX0_bestYear 59 = .ok (.iload_n 2, 1) := by decide +kernel
theorem dX0_bestYear_60 : decode cX0_bestYear 60 = .ok (.iconst (-1), 1) := by decide +kernel
theorem dX0_bestYear_61 : decode cX0_bestYear 61 = .ok (.if_icmp .eq 9, 3) := by decide +kernel
theorem dX0_bestYear_64 : decode cX0_bestYear 64 = .ok (.iload 6, 2) := by decide +kernel
theorem dX0_bestYear_66 : decode cX0_bestYear 66 = .ok (.iload_n 3, 1) := by decide +kernel
theorem dX0_bestYear_67 : decode cX0_bestYear 67 = .ok (.if_icmp .ge 9, 3) := by decide +kernel
theorem dX0_bestYear_70 : decode cX0_bestYear 70 = .ok (.iload 4, 2) := by decide +kernel
theorem dX0_bestYear_72 : decode cX0_bestYear 72 = .ok (.istore_n 2, 1) := by decide +kernel
theorem dX0_bestYear_73 : decode cX0_bestYear 73 = .ok (.iload 6, 2) := by decide +kernel
theorem dX0_bestYear_75 : decode cX0_bestYear 75 = .ok (.istore_n 3, 1) := by decide +kernel
theorem dX0_bestYear_76 : decode cX0_bestYear 76 = .ok (.aload_n 0, 1) := by decide +kernel
theorem dX0_bestYear_77 : decode cX0_bestYear 77 = .ok (.getfield 16, 3) := by decide +kernel
theorem dX0_bestYear_80 : decode cX0_bestYear 80 = .ok (.iload_n 1, 1) := by decide +kernel
theorem dX0_bestYear_81 : decode cX0_bestYear 81 = .ok (.aaload, 1) := by decide +kernel
theorem dX0_bestYear_82 : decode cX0_bestYear 82 = .ok (.iload 4, 2) := by decide +kernel
theorem dX0_bestYear_84 : decode cX0_bestYear 84 = .ok (.iconst 1, 1) := by decide +kernel
theorem dX0_bestYear_85 : decode cX0_bestYear 85 = .ok (.iadd, 1) := by decide +kernel
theorem dX0_bestYear_86 : decode cX0_bestYear 86 = .ok (.invokestatic 140, 3) := by decide +kernel
theorem dX0_bestYear_89 : decode cX0_bestYear 89 = .ok (.istore 4, 2) := by decide +kernel
theorem dX0_bestYear_91 : decode cX0_bestYear 91 = .ok (.iinc 5 1, 3) := by decide +kernel
theorem dX0_bestYear_94 : decode cX0_bestYear 94 = .ok (.goto (-75), 3) := by decide +kernel
theorem dX0_bestYear_97 : decode cX0_bestYear 97 = .ok (.iload_n 2, 1) := by decide +kernel
theorem dX0_bestYear_98 : decode cX0_bestYear 98 = .ok (.ireturn, 1) := by decide +kernel
theorem dX0_ofPhase_0 : decode cX0_ofPhase 0 = .ok (.iconst (-1), 1) := by decide +kernel
theorem dX0_ofPhase_1 : decode cX0_ofPhase 1 = .ok (.istore_n 3, 1) := by decide +kernel
theorem dX0_ofPhase_2 : decode cX0_ofPhase 2 = .ok (.iconst (-1), 1) := by decide +kernel
theorem dX0_ofPhase_3 : decode cX0_ofPhase 3 = .ok (.istore 4, 2) := by decide +kernel
theorem dX0_ofPhase_5 : decode cX0_ofPhase 5 = .ok (.iconst 0, 1) := by decide +kernel
theorem dX0_ofPhase_6 : decode cX0_ofPhase 6 = .ok (.istore 5, 2) := by decide +kernel
theorem dX0_ofPhase_8 : decode cX0_ofPhase 8 = .ok (.sipush 999, 3) := by decide +kernel
theorem dX0_ofPhase_11 : decode cX0_ofPhase 11 = .ok (.istore 6, 2) := by decide +kernel
theorem dX0_ofPhase_13 : decode cX0_ofPhase 13 = .ok (.iconst 0, 1) := by decide +kernel
theorem dX0_ofPhase_14 : decode cX0_ofPhase 14 = .ok (.istore 7, 2) := by decide +kernel
theorem dX0_ofPhase_16 : decode cX0_ofPhase 16 = .ok (.iconst 0, 1) := by decide +kernel
theorem dX0_ofPhase_17 : decode cX0_ofPhase 17 = .ok (.istore 8, 2) := by decide +kernel
theorem dX0_ofPhase_19 : decode cX0_ofPhase 19 = .ok (.iload 8, 2) := by decide +kernel
theorem dX0_ofPhase_21 : decode cX0_ofPhase 21 = .ok (.aload_n 1, 1) := by decide +kernel
theorem dX0_ofPhase_22 : decode cX0_ofPhase 22 = .ok (.getfield 151, 3) := by decide +kernel
theorem dX0_ofPhase_25 : decode cX0_ofPhase 25 = .ok (.if_icmp .ge 103, 3) := by decide +kernel
theorem dX0_ofPhase_28 : decode cX0_ofPhase 28 = .ok (.aload_n 1, 1) := by decide +kernel
theorem dX0_ofPhase_29 : decode cX0_ofPhase 29 = .ok (.getfield 155, 3) := by decide +kernel
theorem dX0_ofPhase_32 : decode cX0_ofPhase 32 = .ok (.iload 8, 2) := by decide +kernel
theorem dX0_ofPhase_34 : decode cX0_ofPhase 34 = .ok (.iaload, 1) := by decide +kernel
theorem dX0_ofPhase_35 : decode cX0_ofPhase 35 = .ok (.istore 9, 2) := by decide +kernel
theorem dX0_ofPhase_37 : decode cX0_ofPhase 37 = .ok (.aload_n 0, 1) := by decide +kernel
theorem dX0_ofPhase_38 : decode cX0_ofPhase 38 = .ok (.getfield 19, 3) := by decide +kernel
theorem dX0_ofPhase_41 : decode cX0_ofPhase 41 = .ok (.iload 9, 2) := by decide +kernel
theorem dX0_ofPhase_43 : decode cX0_ofPhase 43 = .ok (.iaload, 1) := by decide +kernel
theorem dX0_ofPhase_44 : decode cX0_ofPhase 44 = .ok (.ifCond .ne 9, 3) := by decide +kernel
theorem dX0_ofPhase_47 : decode cX0_ofPhase 47 = .ok (.iconst 1, 1) := by decide +kernel
theorem dX0_ofPhase_48 : decode cX0_ofPhase 48 = .ok (.istore 7, 2) := by decide +kernel
theorem dX0_ofPhase_50 : decode cX0_ofPhase 50 = .ok (.goto 72, 3) := by decide +kernel
theorem dX0_ofPhase_53 : decode cX0_ofPhase 53 = .ok (.iload_n 3, 1) := by decide +kernel
theorem dX0_ofPhase_54 : decode cX0_ofPhase 54 = .ok (.iconst (-1), 1) := by decide +kernel
theorem dX0_ofPhase_55 : decode cX0_ofPhase 55 = .ok (.if_icmp .ne 13, 3) := by decide +kernel
theorem dX0_ofPhase_58 : decode cX0_ofPhase 58 = .ok (.aload_n 0, 1) := by decide +kernel
theorem dX0_ofPhase_59 : decode cX0_ofPhase 59 = .ok (.getfield 23, 3) := by decide +kernel
theorem dX0_ofPhase_62 : decode cX0_ofPhase 62 = .ok (.iload 9, 2) := by decide +kernel
theorem dX0_ofPhase_64 : decode cX0_ofPhase 64 = .ok (.iaload, 1) := by decide +kernel
theorem dX0_ofPhase_65 : decode cX0_ofPhase 65 = .ok (.goto 14, 3) := by decide +kernel
theorem dX0_ofPhase_68 : decode cX0_ofPhase 68 = .ok (.iload_n 3, 1) := by decide +kernel
theorem dX0_ofPhase_69 : decode cX0_ofPhase 69 = .ok (.aload_n 0, 1) := by decide +kernel
theorem dX0_ofPhase_70 : decode cX0_ofPhase 70 = .ok (.getfield 23, 3) := by decide +kernel
theorem dX0_ofPhase_73 : decode cX0_ofPhase 73 = .ok (.iload 9, 2) := by decide +kernel
theorem dX0_ofPhase_75 : decode cX0_ofPhase 75 = .ok (.iaload, 1) := by decide +kernel
theorem dX0_ofPhase_76 : decode cX0_ofPhase 76 = .ok (.invokestatic 158, 3) := by decide +kernel
theorem dX0_ofPhase_79 : decode cX0_ofPhase 79 = .ok (.istore_n 3, 1) := by decide +kernel
theorem dX0_ofPhase_80 : decode cX0_ofPhase 80 = .ok (.iload 4, 2) := by decide +kernel
theorem dX0_ofPhase_82 : decode cX0_ofPhase 82 = .ok (.aload_n 0, 1) := by decide +kernel
theorem dX0_ofPhase_83 : decode cX0_ofPhase 83 = .ok (.getfield 26, 3) := by decide +kernel
theorem dX0_ofPhase_86 : decode cX0_ofPhase 86 = .ok (.iload 9, 2) := by decide +kernel
theorem dX0_ofPhase_88 : decode cX0_ofPhase 88 = .ok (.iaload, 1) := by decide +kernel
theorem dX0_ofPhase_89 : decode cX0_ofPhase 89 = .ok (.invokestatic 162, 3) := by decide +kernel
theorem dX0_ofPhase_92 : decode cX0_ofPhase 92 = .ok (.istore 4, 2) := by decide +kernel
theorem dX0_ofPhase_94 : decode cX0_ofPhase 94 = .ok (.iload 5, 2) := by decide +kernel
theorem dX0_ofPhase_96 : decode cX0_ofPhase 96 = .ok (.aload_n 0, 1) := by decide +kernel
theorem dX0_ofPhase_97 : decode cX0_ofPhase 97 = .ok (.getfield 23, 3) := by decide +kernel
theorem dX0_ofPhase_100 : decode cX0_ofPhase 100 = .ok (.iload 9, 2) := by decide +kernel
theorem dX0_ofPhase_102 : decode cX0_ofPhase 102 = .ok (.iaload, 1) := by decide +kernel
theorem dX0_ofPhase_103 : decode cX0_ofPhase 103 = .ok (.invokestatic 162, 3) := by decide +kernel
theorem dX0_ofPhase_106 : decode cX0_ofPhase 106 = .ok (.istore 5, 2) := by decide +kernel
theorem dX0_ofPhase_108 : decode cX0_ofPhase 108 = .ok (.iload 6, 2) := by decide +kernel
theorem dX0_ofPhase_110 : decode cX0_ofPhase 110 = .ok (.aload_n 0, 1) := by decide +kernel
theorem dX0_ofPhase_111 : decode cX0_ofPhase 111 = .ok (.getfield 26, 3) := by decide +kernel
theorem dX0_ofPhase_114 : decode cX0_ofPhase 114 = .ok (.iload 9, 2) := by decide +kernel
theorem dX0_ofPhase_116 : decode cX0_ofPhase 116 = .ok (.iaload, 1) := by decide +kernel
theorem dX0_ofPhase_117 : decode cX0_ofPhase 117 = .ok (.invokestatic 158, 3) := by decide +kernel
theorem dX0_ofPhase_120 : decode cX0_ofPhase 120 = .ok (.istore 6, 2) := by decide +kernel
theorem dX0_ofPhase_122 : decode cX0_ofPhase 122 = .ok (.iinc 8 1, 3) := by decide +kernel
theorem dX0_ofPhase_125 : decode cX0_ofPhase 125 = .ok (.goto (-106), 3) := by decide +kernel
theorem dX0_ofPhase_128 : decode cX0_ofPhase 128 = .ok (.iload_n 2, 1) := by decide +kernel
theorem dX0_ofPhase_129 : decode cX0_ofPhase 129 = .ok (.iconst 2, 1) := by decide +kernel
theorem dX0_ofPhase_130 : decode cX0_ofPhase 130 = .ok (.if_icmp .gt 15, 3) := by decide +kernel
theorem dX0_ofPhase_133 : decode cX0_ofPhase 133 = .ok (.iload_n 2, 1) := by decide +kernel
theorem dX0_ofPhase_134 : decode cX0_ofPhase 134 = .ok (.iconst 1, 1) := by decide +kernel
theorem dX0_ofPhase_135 : decode cX0_ofPhase 135 = .ok (.if_icmp .ne 7, 3) := by decide +kernel
theorem dX0_ofPhase_138 : decode cX0_ofPhase 138 = .ok (.iload_n 3, 1) := by decide +kernel
theorem dX0_ofPhase_139 : decode cX0_ofPhase 139 = .ok (.goto 5, 3) := by decide +kernel
theorem dX0_ofPhase_142 : decode cX0_ofPhase 142 = .ok (.iload 4, 2) := by decide +kernel
theorem dX0_ofPhase_144 : decode cX0_ofPhase 144 = .ok (.ireturn, 1) := by decide +kernel
theorem dX0_ofPhase_145 : decode cX0_ofPhase 145 = .ok (.iload 7, 2) := by decide +kernel
theorem dX0_ofPhase_147 : decode cX0_ofPhase 147 = .ok (.ifCond .eq 5, 3) := by decide +kernel
theorem dX0_ofPhase_150 : decode cX0_ofPhase 150 = .ok (.iconst (-1), 1) := by decide +kernel
theorem dX0_ofPhase_151 : decode cX0_ofPhase 151 = .ok (.ireturn, 1) := by decide +kernel
theorem dX0_ofPhase_152 : decode cX0_ofPhase 152 = .ok (.iload_n 2, 1) := by decide +kernel
theorem dX0_ofPhase_153 : decode cX0_ofPhase 153 = .ok (.iconst 3, 1) := by decide +kernel
theorem dX0_ofPhase_154 : decode cX0_ofPhase 154 = .ok (.if_icmp .ne 15, 3) := by decide +kernel
theorem dX0_ofPhase_157 : decode cX0_ofPhase 157 = .ok (.iconst 0, 1) := by decide +kernel
theorem dX0_ofPhase_158 : decode cX0_ofPhase 158 = .ok (.iload 5, 2) := by decide +kernel
theorem dX0_ofPhase_160 : decode cX0_ofPhase 160 = .ok (.iload 6, 2) := by decide +kernel
theorem dX0_ofPhase_162 : decode cX0_ofPhase 162 = .ok (.isub, 1) := by decide +kernel
theorem dX0_ofPhase_163 : decode cX0_ofPhase 163 = .ok (.invokestatic 162, 3) := by decide +kernel
theorem dX0_ofPhase_166 : decode cX0_ofPhase 166 = .ok (.goto 7, 3) := by decide +kernel
theorem dX0_ofPhase_169 : decode cX0_ofPhase 169 = .ok (.iload 4, 2) := by decide +kernel
theorem dX0_ofPhase_171 : decode cX0_ofPhase 171 = .ok (.iload_n 3, 1) := by decide +kernel
theorem dX0_ofPhase_172 : decode cX0_ofPhase 172 = .ok (.isub, 1) := by decide +kernel
theorem dX0_ofPhase_173 : decode cX0_ofPhase 173 = .ok (.ireturn, 1) := by decide +kernel
theorem dX0_layDated_0 : decode cX0_layDated 0 = .ok (.iconst 0, 1) := by decide +kernel
theorem dX0_layDated_1 : decode cX0_layDated 1 = .ok (.istore 4, 2) := by decide +kernel
theorem dX0_layDated_3 : decode cX0_layDated 3 = .ok (.iload 4, 2) := by decide +kernel
theorem dX0_layDated_5 : decode cX0_layDated 5 = .ok (.sipush 1000, 3) := by decide +kernel
theorem dX0_layDated_8 : decode cX0_layDated 8 = .ok (.if_icmp .ge 42, 3) := by decide +kernel
theorem dX0_layDated_11 : decode cX0_layDated 11 = .ok (.aload_n 0, 1) := by decide +kernel
theorem dX0_layDated_12 : decode cX0_layDated 12 = .ok (.getfield 60, 3) := by decide +kernel
theorem dX0_layDated_15 : decode cX0_layDated 15 = .ok (.iload 4, 2) := by decide +kernel
theorem dX0_layDated_17 : decode cX0_layDated 17 = .ok (.iaload, 1) := by decide +kernel
theorem dX0_layDated_18 : decode cX0_layDated 18 = .ok (.istore 5, 2) := by decide +kernel
theorem dX0_layDated_20 : decode cX0_layDated 20 = .ok (.iload 5, 2) := by decide +kernel
theorem dX0_layDated_22 : decode cX0_layDated 22 = .ok (.iload_n 2, 1) := by decide +kernel
theorem dX0_layDated_23 : decode cX0_layDated 23 = .ok (.if_icmp .lt 21, 3) := by decide +kernel
theorem dX0_layDated_26 : decode cX0_layDated 26 = .ok (.iload 5, 2) := by decide +kernel
theorem dX0_layDated_28 : decode cX0_layDated 28 = .ok (.iload_n 3, 1) := by decide +kernel
theorem dX0_layDated_29 : decode cX0_layDated 29 = .ok (.if_icmp .gt 15, 3) := by decide +kernel
theorem dX0_layDated_32 : decode cX0_layDated 32 = .ok (.iload 5, 2) := by decide +kernel
theorem dX0_layDated_34 : decode cX0_layDated 34 = .ok (.iconst (-1), 1) := by decide +kernel
theorem dX0_layDated_35 : decode cX0_layDated 35 = .ok (.if_icmp .eq 9, 3) := by decide +kernel
theorem dX0_layDated_38 : decode cX0_layDated 38 = .ok (.aload_n 1, 1) := by decide +kernel
theorem dX0_layDated_39 : decode cX0_layDated 39 = .ok (.iload 4, 2) := by decide +kernel
theorem dX0_layDated_41 : decode cX0_layDated 41 = .ok (.invokestatic 118, 3) := by decide +kernel
theorem dX0_layDated_44 : decode cX0_layDated 44 = .ok (.iinc 4 1, 3) := by decide +kernel
theorem dX0_layDated_47 : decode cX0_layDated 47 = .ok (.goto (-44), 3) := by decide +kernel
theorem dX0_layDated_50 : decode cX0_layDated 50 = .ok (.return_, 1) := by decide +kernel
theorem dX0_layRings_0 : decode cX0_layRings 0 = .ok (.ldc 167, 2) := by decide +kernel
theorem dX0_layRings_2 : decode cX0_layRings 2 = .ok (.iload_n 3, 1) := by decide +kernel
theorem dX0_layRings_3 : decode cX0_layRings 3 = .ok (.isub, 1) := by decide +kernel
theorem dX0_layRings_4 : decode cX0_layRings 4 = .ok (.istore 5, 2) := by decide +kernel
theorem dX0_layRings_6 : decode cX0_layRings 6 = .ok (.iconst 0, 1) := by decide +kernel
theorem dX0_layRings_7 : decode cX0_layRings 7 = .ok (.istore 6, 2) := by decide +kernel
theorem dX0_layRings_9 : decode cX0_layRings 9 = .ok (.iload 6, 2) := by decide +kernel
theorem dX0_layRings_11 : decode cX0_layRings 11 = .ok (.sipush 1000, 3) := by decide +kernel
theorem dX0_layRings_14 : decode cX0_layRings 14 = .ok (.if_icmp .ge 57, 3) := by decide +kernel
theorem dX0_layRings_17 : decode cX0_layRings 17 = .ok (.aload_n 0, 1) := by decide +kernel
theorem dX0_layRings_18 : decode cX0_layRings 18 = .ok (.getfield 42, 3) := by decide +kernel
theorem dX0_layRings_21 : decode cX0_layRings 21 = .ok (.iload 6, 2) := by decide +kernel
theorem dX0_layRings_23 : decode cX0_layRings 23 = .ok (.aload_n 0, 1) := by decide +kernel
theorem dX0_layRings_24 : decode cX0_layRings 24 = .ok (.aload_n 1, 1) := by decide +kernel
theorem dX0_layRings_25 : decode cX0_layRings 25 = .ok (.iload 6, 2) := by decide +kernel
theorem dX0_layRings_27 : decode cX0_layRings 27 = .ok (.iload 4, 2) := by decide +kernel
theorem dX0_layRings_29 : decode cX0_layRings 29 = .ok (.invokevirtual 147, 3) := by decide +kernel
theorem dX0_layRings_32 : decode cX0_layRings 32 = .ok (.iastore, 1) := by decide +kernel
theorem dX0_layRings_33 : decode cX0_layRings 33 = .ok (.aload_n 0, 1) := by decide +kernel
theorem dX0_layRings_34 : decode cX0_layRings 34 = .ok (.getfield 42, 3) := by decide +kernel
theorem dX0_layRings_37 : decode cX0_layRings 37 = .ok (.iload 6, 2) := by decide +kernel
theorem dX0_layRings_39 : decode cX0_layRings 39 = .ok (.iaload, 1) := by decide +kernel
theorem dX0_layRings_40 : decode cX0_layRings 40 = .ok (.iconst (-1), 1) := by decide +kernel
theorem dX0_layRings_41 : decode cX0_layRings 41 = .ok (.if_icmp .eq 24, 3) := by decide +kernel
theorem dX0_layRings_44 : decode cX0_layRings 44 = .ok (.aload_n 0, 1) := by decide +kernel
theorem dX0_layRings_45 : decode cX0_layRings 45 = .ok (.getfield 42, 3) := by decide +kernel
theorem dX0_layRings_48 : decode cX0_layRings 48 = .ok (.iload 6, 2) := by decide +kernel
theorem dX0_layRings_50 : decode cX0_layRings 50 = .ok (.iaload, 1) := by decide +kernel
theorem dX0_layRings_51 : decode cX0_layRings 51 = .ok (.iload 5, 2) := by decide +kernel
theorem dX0_layRings_53 : decode cX0_layRings 53 = .ok (.if_icmp .ge 12, 3) := by decide +kernel
theorem dX0_layRings_56 : decode cX0_layRings 56 = .ok (.aload_n 0, 1) := by decide +kernel
theorem dX0_layRings_57 : decode cX0_layRings 57 = .ok (.getfield 42, 3) := by decide +kernel
theorem dX0_layRings_60 : decode cX0_layRings 60 = .ok (.iload 6, 2) := by decide +kernel
theorem dX0_layRings_62 : decode cX0_layRings 62 = .ok (.iaload, 1) := by decide +kernel
theorem dX0_layRings_63 : decode cX0_layRings 63 = .ok (.istore 5, 2) := by decide +kernel
theorem dX0_layRings_65 : decode cX0_layRings 65 = .ok (.iinc 6 1, 3) := by decide +kernel
theorem dX0_layRings_68 : decode cX0_layRings 68 = .ok (.goto (-59), 3) := by decide +kernel
theorem dX0_layRings_71 : decode cX0_layRings 71 = .ok (.iconst 0, 1) := by decide +kernel
theorem dX0_layRings_72 : decode cX0_layRings 72 = .ok (.istore 6, 2) := by decide +kernel
theorem dX0_layRings_74 : decode cX0_layRings 74 = .ok (.iload 6, 2) := by decide +kernel
theorem dX0_layRings_76 : decode cX0_layRings 76 = .ok (.sipush 1000, 3) := by decide +kernel
theorem dX0_layRings_79 : decode cX0_layRings 79 = .ok (.if_icmp .ge 40, 3) := by decide +kernel
theorem dX0_layRings_82 : decode cX0_layRings 82 = .ok (.aload_n 0, 1) := by decide +kernel
theorem dX0_layRings_83 : decode cX0_layRings 83 = .ok (.getfield 42, 3) := by decide +kernel
theorem dX0_layRings_86 : decode cX0_layRings 86 = .ok (.iload 6, 2) := by decide +kernel
theorem dX0_layRings_88 : decode cX0_layRings 88 = .ok (.iaload, 1) := by decide +kernel
theorem dX0_layRings_89 : decode cX0_layRings 89 = .ok (.iconst (-1), 1) := by decide +kernel
theorem dX0_layRings_90 : decode cX0_layRings 90 = .ok (.if_icmp .eq 23, 3) := by decide +kernel
theorem dX0_layRings_93 : decode cX0_layRings 93 = .ok (.aload_n 0, 1) := by decide +kernel
theorem dX0_layRings_94 : decode cX0_layRings 94 = .ok (.getfield 42, 3) := by decide +kernel
theorem dX0_layRings_97 : decode cX0_layRings 97 = .ok (.iload 6, 2) := by decide +kernel
theorem dX0_layRings_99 : decode cX0_layRings 99 = .ok (.iaload, 1) := by decide +kernel
theorem dX0_layRings_100 : decode cX0_layRings 100 = .ok (.iload 5, 2) := by decide +kernel
theorem dX0_layRings_102 : decode cX0_layRings 102 = .ok (.iload_n 3, 1) := by decide +kernel
theorem dX0_layRings_103 : decode cX0_layRings 103 = .ok (.iadd, 1) := by decide +kernel
theorem dX0_layRings_104 : decode cX0_layRings 104 = .ok (.if_icmp .gt 9, 3) := by decide +kernel
theorem dX0_layRings_107 : decode cX0_layRings 107 = .ok (.aload_n 2, 1) := by decide +kernel
theorem dX0_layRings_108 : decode cX0_layRings 108 = .ok (.iload 6, 2) := by decide +kernel
theorem dX0_layRings_110 : decode cX0_layRings 110 = .ok (.invokestatic 118, 3) := by decide +kernel
theorem dX0_layRings_113 : decode cX0_layRings 113 = .ok (.iinc 6 1, 3) := by decide +kernel
theorem dX0_layRings_116 : decode cX0_layRings 116 = .ok (.goto (-42), 3) := by decide +kernel
theorem dX0_layRings_119 : decode cX0_layRings 119 = .ok (.return_, 1) := by decide +kernel
theorem dX0_startFromFirst_0 : decode cX0_startFromFirst 0 = .ok (.aload_n 0, 1) := by decide +kernel
theorem dX0_startFromFirst_1 : decode cX0_startFromFirst 1 = .ok (.bipush (-2), 2) := by decide +kernel
theorem dX0_startFromFirst_3 : decode cX0_startFromFirst 3 = .ok (.putfield 36, 3) := by decide +kernel
theorem dX0_startFromFirst_6 : decode cX0_startFromFirst 6 = .ok (.aload_n 0, 1) := by decide +kernel
theorem dX0_startFromFirst_7 : decode cX0_startFromFirst 7 = .ok (.bipush (-2), 2) := by decide +kernel
theorem dX0_startFromFirst_9 : decode cX0_startFromFirst 9 = .ok (.putfield 39, 3) := by decide +kernel
theorem dX0_startFromFirst_12 : decode cX0_startFromFirst 12 = .ok (.iconst 0, 1) := by decide +kernel
theorem dX0_startFromFirst_13 : decode cX0_startFromFirst 13 = .ok (.istore_n 1, 1) := by decide +kernel
theorem dX0_startFromFirst_14 : decode cX0_startFromFirst 14 = .ok (.iload_n 1, 1) := by decide +kernel
theorem dX0_startFromFirst_15 : decode cX0_startFromFirst 15 = .ok (.aload_n 0, 1) := by decide +kernel
theorem dX0_startFromFirst_16 : decode cX0_startFromFirst 16 = .ok (.getfield 56, 3) := by decide +kernel
theorem dX0_startFromFirst_19 : decode cX0_startFromFirst 19 = .ok (.getfield 125, 3) := by decide +kernel
theorem dX0_startFromFirst_22 : decode cX0_startFromFirst 22 = .ok (.if_icmp .ge 16, 3) := by decide +kernel
theorem dX0_startFromFirst_25 : decode cX0_startFromFirst 25 = .ok (.aload_n 0, 1) := by decide +kernel
theorem dX0_startFromFirst_26 : decode cX0_startFromFirst 26 = .ok (.getfield 29, 3) := by decide +kernel
theorem dX0_startFromFirst_29 : decode cX0_startFromFirst 29 = .ok (.iload_n 1, 1) := by decide +kernel
theorem dX0_startFromFirst_30 : decode cX0_startFromFirst 30 = .ok (.iconst 0, 1) := by decide +kernel
theorem dX0_startFromFirst_31 : decode cX0_startFromFirst 31 = .ok (.iastore, 1) := by decide +kernel
theorem dX0_startFromFirst_32 : decode cX0_startFromFirst 32 = .ok (.iinc 1 1, 3) := by decide +kernel
theorem dX0_startFromFirst_35 : decode cX0_startFromFirst 35 = .ok (.goto (-21), 3) := by decide +kernel
theorem dX0_startFromFirst_38 : decode cX0_startFromFirst 38 = .ok (.iconst 0, 1) := by decide +kernel
theorem dX0_startFromFirst_39 : decode cX0_startFromFirst 39 = .ok (.istore_n 1, 1) := by decide +kernel
theorem dX0_startFromFirst_40 : decode cX0_startFromFirst 40 = .ok (.iload_n 1, 1) := by decide +kernel
theorem dX0_startFromFirst_41 : decode cX0_startFromFirst 41 = .ok (.aload_n 0, 1) := by decide +kernel
theorem dX0_startFromFirst_42 : decode cX0_startFromFirst 42 = .ok (.getfield 56, 3) := by decide +kernel
theorem dX0_startFromFirst_45 : decode cX0_startFromFirst 45 = .ok (.getfield 86, 3) := by decide +kernel
theorem dX0_startFromFirst_48 : decode cX0_startFromFirst 48 = .ok (.if_icmp .ge 65, 3) := by decide +kernel
theorem dX0_startFromFirst_51 : decode cX0_startFromFirst 51 = .ok (.aload_n 0, 1) := by decide +kernel
theorem dX0_startFromFirst_52 : decode cX0_startFromFirst 52 = .ok (.getfield 11, 3) := by decide +kernel
theorem dX0_startFromFirst_55 : decode cX0_startFromFirst 55 = .ok (.iload_n 1, 1) := by decide +kernel
theorem dX0_startFromFirst_56 : decode cX0_startFromFirst 56 = .ok (.aaload, 1) := by decide +kernel
theorem dX0_startFromFirst_57 : decode cX0_startFromFirst 57 = .ok (.iconst 0, 1) := by decide +kernel
theorem dX0_startFromFirst_58 : decode cX0_startFromFirst 58 = .ok (.aload_n 0, 1) := by decide +kernel
theorem dX0_startFromFirst_59 : decode cX0_startFromFirst 59 = .ok (.getfield 16, 3) := by decide +kernel
theorem dX0_startFromFirst_62 : decode cX0_startFromFirst 62 = .ok (.iload_n 1, 1) := by decide +kernel
theorem dX0_startFromFirst_63 : decode cX0_startFromFirst 63 = .ok (.aaload, 1) := by decide +kernel
theorem dX0_startFromFirst_64 : decode cX0_startFromFirst 64 = .ok (.iconst 0, 1) := by decide +kernel
theorem dX0_startFromFirst_65 : decode cX0_startFromFirst 65 = .ok (.bipush 16, 2) := by decide +kernel
theorem dX0_startFromFirst_67 : decode cX0_startFromFirst 67 = .ok (.invokestatic 112, 3) := by decide +kernel
theorem dX0_startFromFirst_70 : decode cX0_startFromFirst 70 = .ok (.aload_n 0, 1) := by decide +kernel
theorem dX0_startFromFirst_71 : decode cX0_startFromFirst 71 = .ok (.iload_n 1, 1) := by decide +kernel
theorem dX0_startFromFirst_72 : decode cX0_startFromFirst 72 = .ok (.aload_n 0, 1) := by decide +kernel
theorem dX0_startFromFirst_73 : decode cX0_startFromFirst 73 = .ok (.getfield 11, 3) := by decide +kernel
theorem dX0_startFromFirst_76 : decode cX0_startFromFirst 76 = .ok (.iload_n 1, 1) := by decide +kernel
theorem dX0_startFromFirst_77 : decode cX0_startFromFirst 77 = .ok (.aaload, 1) := by decide +kernel
theorem dX0_startFromFirst_78 : decode cX0_startFromFirst 78 = .ok (.invokevirtual 168, 3) := by decide +kernel
theorem dX0_startFromFirst_81 : decode cX0_startFromFirst 81 = .ok (.aload_n 0, 1) := by decide +kernel
theorem dX0_startFromFirst_82 : decode cX0_startFromFirst 82 = .ok (.getfield 19, 3) := by decide +kernel
theorem dX0_startFromFirst_85 : decode cX0_startFromFirst 85 = .ok (.iload_n 1, 1) := by decide +kernel
theorem dX0_startFromFirst_86 : decode cX0_startFromFirst 86 = .ok (.iaload, 1) := by decide +kernel
theorem dX0_startFromFirst_87 : decode cX0_startFromFirst 87 = .ok (.ifCond .ne 20, 3) := by decide +kernel
theorem dX0_startFromFirst_90 : decode cX0_startFromFirst 90 = .ok (.aload_n 0, 1) := by decide +kernel
theorem dX0_startFromFirst_91 : decode cX0_startFromFirst 91 = .ok (.invokevirtual 128, 3) := by decide +kernel
theorem dX0_startFromFirst_94 : decode cX0_startFromFirst 94 = .ok (.ifCond .ne 13, 3) := by decide +kernel
theorem dX0_startFromFirst_97 : decode cX0_startFromFirst 97 = .ok (.aload_n 0, 1) := by decide +kernel
theorem dX0_startFromFirst_98 : decode cX0_startFromFirst 98 = .ok (.iconst (-1), 1) := by decide +kernel
theorem dX0_startFromFirst_99 : decode cX0_startFromFirst 99 = .ok (.putfield 36, 3) := by decide +kernel
theorem dX0_startFromFirst_102 : decode cX0_startFromFirst 102 = .ok (.aload_n 0, 1) := by decide +kernel
theorem dX0_startFromFirst_103 : decode cX0_startFromFirst 103 = .ok (.iload_n 1, 1) := by decide +kernel
theorem dX0_startFromFirst_104 : decode cX0_startFromFirst 104 = .ok (.putfield 39, 3) := by decide +kernel
theorem dX0_startFromFirst_107 : decode cX0_startFromFirst 107 = .ok (.iinc 1 1, 3) := by decide +kernel
theorem dX0_startFromFirst_110 : decode cX0_startFromFirst 110 = .ok (.goto (-70), 3) := by decide +kernel
theorem dX0_startFromFirst_113 : decode cX0_startFromFirst 113 = .ok (.return_, 1) := by decide +kernel
theorem dX0_apply_0 : decode cX0_apply 0 = .ok (.aload_n 1, 1) := by decide +kernel
theorem dX0_apply_1 : decode cX0_apply 1 = .ok (.getfield 172, 3) := by decide +kernel
theorem dX0_apply_4 : decode cX0_apply 4 = .ok (.tableswitch 200 0 4 #[36, 59, 76, 94, 110], 36) := by decide +kernel
theorem dX0_apply_40 : decode cX0_apply 40 = .ok (.aload_n 0, 1) := by decide +kernel
theorem dX0_apply_41 : decode cX0_apply 41 = .ok (.aload_n 1, 1) := by decide +kernel
theorem dX0_apply_42 : decode cX0_apply 42 = .ok (.getfield 177, 3) := by decide +kernel
theorem dX0_apply_45 : decode cX0_apply 45 = .ok (.aload_n 1, 1) := by decide +kernel
theorem dX0_apply_46 : decode cX0_apply 46 = .ok (.getfield 180, 3) := by decide +kernel
theorem dX0_apply_49 : decode cX0_apply 49 = .ok (.aload_n 1, 1) := by decide +kernel
theorem dX0_apply_50 : decode cX0_apply 50 = .ok (.getfield 183, 3) := by decide +kernel
theorem dX0_apply_53 : decode cX0_apply 53 = .ok (.aload_n 1, 1) := by decide +kernel
theorem dX0_apply_54 : decode cX0_apply 54 = .ok (.getfield 186, 3) := by decide +kernel
theorem dX0_apply_57 : decode cX0_apply 57 = .ok (.invokevirtual 189, 3) := by decide +kernel
theorem dX0_apply_60 : decode cX0_apply 60 = .ok (.goto 228, 3) := by decide +kernel
theorem dX0_apply_63 : decode cX0_apply 63 = .ok (.aload_n 0, 1) := by decide +kernel
theorem dX0_apply_64 : decode cX0_apply 64 = .ok (.aload_n 1, 1) := by decide +kernel
theorem dX0_apply_65 : decode cX0_apply 65 = .ok (.getfield 177, 3) := by decide +kernel
theorem dX0_apply_68 : decode cX0_apply 68 = .ok (.aload_n 1, 1) := by decide +kernel
theorem dX0_apply_69 : decode cX0_apply 69 = .ok (.getfield 180, 3) := by decide +kernel
theorem dX0_apply_72 : decode cX0_apply 72 = .ok (.iconst 0, 1) := by decide +kernel
theorem dX0_apply_73 : decode cX0_apply 73 = .ok (.iconst 0, 1) := by decide +kernel
theorem dX0_apply_74 : decode cX0_apply 74 = .ok (.invokevirtual 189, 3) := by decide +kernel
theorem dX0_apply_77 : decode cX0_apply 77 = .ok (.goto 211, 3) := by decide +kernel
theorem dX0_apply_80 : decode cX0_apply 80 = .ok (.aload_n 0, 1) := by decide +kernel
theorem dX0_apply_81 : decode cX0_apply 81 = .ok (.aload_n 1, 1) := by decide +kernel
theorem dX0_apply_82 : decode cX0_apply 82 = .ok (.getfield 177, 3) := by decide +kernel
theorem dX0_apply_85 : decode cX0_apply 85 = .ok (.aload_n 1, 1) := by decide +kernel
theorem dX0_apply_86 : decode cX0_apply 86 = .ok (.getfield 183, 3) := by decide +kernel
theorem dX0_apply_89 : decode cX0_apply 89 = .ok (.sipush 999, 3) := by decide +kernel
theorem dX0_apply_92 : decode cX0_apply 92 = .ok (.invokevirtual 193, 3) := by decide +kernel
theorem dX0_apply_95 : decode cX0_apply 95 = .ok (.goto 193, 3) := by decide +kernel
theorem dX0_apply_98 : decode cX0_apply 98 = .ok (.aload_n 0, 1) := by decide +kernel
theorem dX0_apply_99 : decode cX0_apply 99 = .ok (.aload_n 1, 1) := by decide +kernel
theorem dX0_apply_100 : decode cX0_apply 100 = .ok (.getfield 177, 3) := by decide +kernel
theorem dX0_apply_103 : decode cX0_apply 103 = .ok (.iconst 0, 1) := by decide +kernel
theorem dX0_apply_104 : decode cX0_apply 104 = .ok (.aload_n 1, 1) := by decide +kernel
theorem dX0_apply_105 : decode cX0_apply 105 = .ok (.getfield 183, 3) := by decide +kernel
theorem dX0_apply_108 : decode cX0_apply 108 = .ok (.invokevirtual 193, 3) := by decide +kernel
theorem dX0_apply_111 : decode cX0_apply 111 = .ok (.goto 177, 3) := by decide +kernel
theorem dX0_apply_114 : decode cX0_apply 114 = .ok (.aload_n 0, 1) := by decide +kernel
theorem dX0_apply_115 : decode cX0_apply 115 = .ok (.getfield 56, 3) := by decide +kernel
theorem dX0_apply_118 : decode cX0_apply 118 = .ok (.getfield 197, 3) := by decide +kernel
theorem dX0_apply_121 : decode cX0_apply 121 = .ok (.aload_n 1, 1) := by decide +kernel
theorem dX0_apply_122 : decode cX0_apply 122 = .ok (.getfield 177, 3) := by decide +kernel
theorem dX0_apply_125 : decode cX0_apply 125 = .ok (.aaload, 1) := by decide +kernel
theorem dX0_apply_126 : decode cX0_apply 126 = .ok (.astore_n 2, 1) := by decide +kernel
theorem dX0_apply_127 : decode cX0_apply 127 = .ok (.aload_n 0, 1) := by decide +kernel
theorem dX0_apply_128 : decode cX0_apply 128 = .ok (.getfield 56, 3) := by decide +kernel
theorem dX0_apply_131 : decode cX0_apply 131 = .ok (.getfield 197, 3) := by decide +kernel
theorem dX0_apply_134 : decode cX0_apply 134 = .ok (.aload_n 1, 1) := by decide +kernel
theorem dX0_apply_135 : decode cX0_apply 135 = .ok (.getfield 180, 3) := by decide +kernel
theorem dX0_apply_138 : decode cX0_apply 138 = .ok (.aaload, 1) := by decide +kernel
theorem dX0_apply_139 : decode cX0_apply 139 = .ok (.astore_n 3, 1) := by decide +kernel
theorem dX0_apply_140 : decode cX0_apply 140 = .ok (.iconst 0, 1) := by decide +kernel
theorem dX0_apply_141 : decode cX0_apply 141 = .ok (.istore 4, 2) := by decide +kernel
theorem dX0_apply_143 : decode cX0_apply 143 = .ok (.iload 4, 2) := by decide +kernel
theorem dX0_apply_145 : decode cX0_apply 145 = .ok (.aload_n 2, 1) := by decide +kernel
theorem dX0_apply_146 : decode cX0_apply 146 = .ok (.getfield 151, 3) := by decide +kernel
theorem dX0_apply_149 : decode cX0_apply 149 = .ok (.if_icmp .ge 52, 3) := by decide +kernel
theorem dX0_apply_152 : decode cX0_apply 152 = .ok (.iconst 0, 1) := by decide +kernel
theorem dX0_apply_153 : decode cX0_apply 153 = .ok (.istore 5, 2) := by decide +kernel
theorem dX0_apply_155 : decode cX0_apply 155 = .ok (.iload 5, 2) := by decide +kernel
theorem dX0_apply_157 : decode cX0_apply 157 = .ok (.aload_n 3, 1) := by decide +kernel
theorem dX0_apply_158 : decode cX0_apply 158 = .ok (.getfield 151, 3) := by decide +kernel
theorem dX0_apply_161 : decode cX0_apply 161 = .ok (.if_icmp .ge 34, 3) := by decide +kernel
theorem dX0_apply_164 : decode cX0_apply 164 = .ok (.aload_n 0, 1) := by decide +kernel
theorem dX0_apply_165 : decode cX0_apply 165 = .ok (.aload_n 2, 1) := by decide +kernel
theorem dX0_apply_166 : decode cX0_apply 166 = .ok (.getfield 155, 3) := by decide +kernel
theorem dX0_apply_169 : decode cX0_apply 169 = .ok (.iload 4, 2) := by decide +kernel
theorem dX0_apply_171 : decode cX0_apply 171 = .ok (.iaload, 1) := by decide +kernel
theorem dX0_apply_172 : decode cX0_apply 172 = .ok (.aload_n 3, 1) := by decide +kernel
theorem dX0_apply_173 : decode cX0_apply 173 = .ok (.getfield 155, 3) := by decide +kernel
theorem dX0_apply_176 : decode cX0_apply 176 = .ok (.iload 5, 2) := by decide +kernel
theorem dX0_apply_178 : decode cX0_apply 178 = .ok (.iaload, 1) := by decide +kernel
theorem dX0_apply_179 : decode cX0_apply 179 = .ok (.aload_n 1, 1) := by decide +kernel
theorem dX0_apply_180 : decode cX0_apply 180 = .ok (.getfield 183, 3) := by decide +kernel
theorem dX0_apply_183 : decode cX0_apply 183 = .ok (.sipush 999, 3) := by decide +kernel
theorem dX0_apply_186 : decode cX0_apply 186 = .ok (.invokevirtual 189, 3) := by decide +kernel
theorem dX0_apply_189 : decode cX0_apply 189 = .ok (.iinc 5 1, 3) := by decide +kernel
theorem dX0_apply_192 : decode cX0_apply 192 = .ok (.goto (-37), 3) := by decide +kernel
theorem dX0_apply_195 : decode cX0_apply 195 = .ok (.iinc 4 1, 3) := by decide +kernel
theorem dX0_apply_198 : decode cX0_apply 198 = .ok (.goto (-55), 3) := by decide +kernel
theorem dX0_apply_201 : decode cX0_apply 201 = .ok (.goto 87, 3) := by decide +kernel
theorem dX0_apply_204 : decode cX0_apply 204 = .ok (.aload_n 0, 1) := by decide +kernel
theorem dX0_apply_205 : decode cX0_apply 205 = .ok (.getfield 56, 3) := by decide +kernel
theorem dX0_apply_208 : decode cX0_apply 208 = .ok (.getfield 197, 3) := by decide +kernel
theorem dX0_apply_211 : decode cX0_apply 211 = .ok (.aload_n 1, 1) := by decide +kernel
theorem dX0_apply_212 : decode cX0_apply 212 = .ok (.getfield 177, 3) := by decide +kernel
theorem dX0_apply_215 : decode cX0_apply 215 = .ok (.aaload, 1) := by decide +kernel
theorem dX0_apply_216 : decode cX0_apply 216 = .ok (.astore 4, 2) := by decide +kernel
theorem dX0_apply_218 : decode cX0_apply 218 = .ok (.iconst 0, 1) := by decide +kernel
theorem dX0_apply_219 : decode cX0_apply 219 = .ok (.istore 5, 2) := by decide +kernel
theorem dX0_apply_221 : decode cX0_apply 221 = .ok (.iload 5, 2) := by decide +kernel
theorem dX0_apply_223 : decode cX0_apply 223 = .ok (.aload 4, 2) := by decide +kernel
theorem dX0_apply_225 : decode cX0_apply 225 = .ok (.getfield 151, 3) := by decide +kernel
theorem dX0_apply_228 : decode cX0_apply 228 = .ok (.if_icmp .ge 60, 3) := by decide +kernel
theorem dX0_apply_231 : decode cX0_apply 231 = .ok (.iload 5, 2) := by decide +kernel
theorem dX0_apply_233 : decode cX0_apply 233 = .ok (.iconst 1, 1) := by decide +kernel
theorem dX0_apply_234 : decode cX0_apply 234 = .ok (.iadd, 1) := by decide +kernel
theorem dX0_apply_235 : decode cX0_apply 235 = .ok (.istore 6, 2) := by decide +kernel
theorem dX0_apply_237 : decode cX0_apply 237 = .ok (.iload 6, 2) := by decide +kernel
theorem dX0_apply_239 : decode cX0_apply 239 = .ok (.aload 4, 2) := by decide +kernel
theorem dX0_apply_241 : decode cX0_apply 241 = .ok (.getfield 151, 3) := by decide +kernel
theorem dX0_apply_244 : decode cX0_apply 244 = .ok (.if_icmp .ge 38, 3) := by decide +kernel
theorem dX0_apply_247 : decode cX0_apply 247 = .ok (.aload_n 0, 1) := by decide +kernel
theorem dX0_apply_248 : decode cX0_apply 248 = .ok (.aload 4, 2) := by decide +kernel
theorem dX0_apply_250 : decode cX0_apply 250 = .ok (.getfield 155, 3) := by decide +kernel
theorem dX0_apply_253 : decode cX0_apply 253 = .ok (.iload 5, 2) := by decide +kernel
theorem dX0_apply_255 : decode cX0_apply 255 = .ok (.iaload, 1) := by decide +kernel
theorem dX0_apply_256 : decode cX0_apply 256 = .ok (.aload 4, 2) := by decide +kernel
theorem dX0_apply_258 : decode cX0_apply 258 = .ok (.getfield 155, 3) := by decide +kernel
theorem dX0_apply_261 : decode cX0_apply 261 = .ok (.iload 6, 2) := by decide +kernel
theorem dX0_apply_263 : decode cX0_apply 263 = .ok (.iaload, 1) := by decide +kernel
theorem dX0_apply_264 : decode cX0_apply 264 = .ok (.aload_n 1, 1) := by decide +kernel
theorem dX0_apply_265 : decode cX0_apply 265 = .ok (.getfield 183, 3) := by decide +kernel
theorem dX0_apply_268 : decode cX0_apply 268 = .ok (.ineg, 1) := by decide +kernel
theorem dX0_apply_269 : decode cX0_apply 269 = .ok (.aload_n 1, 1) := by decide +kernel
theorem dX0_apply_270 : decode cX0_apply 270 = .ok (.getfield 183, 3) := by decide +kernel
theorem dX0_apply_273 : decode cX0_apply 273 = .ok (.invokevirtual 189, 3) := by decide +kernel
theorem dX0_apply_276 : decode cX0_apply 276 = .ok (.iinc 6 1, 3) := by decide +kernel
theorem dX0_apply_279 : decode cX0_apply 279 = .ok (.goto (-42), 3) := by decide +kernel
theorem dX0_apply_282 : decode cX0_apply 282 = .ok (.iinc 5 1, 3) := by decide +kernel
theorem dX0_apply_285 : decode cX0_apply 285 = .ok (.goto (-64), 3) := by decide +kernel
theorem dX0_apply_288 : decode cX0_apply 288 = .ok (.return_, 1) := by decide +kernel
theorem dX0_meet_0 : decode cX0_meet 0 = .ok (.iload_n 1, 1) := by decide +kernel
theorem dX0_meet_1 : decode cX0_meet 1 = .ok (.iload_n 2, 1) := by decide +kernel
theorem dX0_meet_2 : decode cX0_meet 2 = .ok (.if_icmp .eq 26, 3) := by decide +kernel
theorem dX0_meet_5 : decode cX0_meet 5 = .ok (.aload_n 0, 1) := by decide +kernel
theorem dX0_meet_6 : decode cX0_meet 6 = .ok (.iload_n 2, 1) := by decide +kernel
theorem dX0_meet_7 : decode cX0_meet 7 = .ok (.iload_n 1, 1) := by decide +kernel
theorem dX0_meet_8 : decode cX0_meet 8 = .ok (.iload_n 3, 1) := by decide +kernel
theorem dX0_meet_9 : decode cX0_meet 9 = .ok (.iload 4, 2) := by decide +kernel
theorem dX0_meet_11 : decode cX0_meet 11 = .ok (.invokevirtual 201, 3) := by decide +kernel
theorem dX0_meet_14 : decode cX0_meet 14 = .ok (.aload_n 0, 1) := by decide +kernel
theorem dX0_meet_15 : decode cX0_meet 15 = .ok (.iload_n 1, 1) := by decide +kernel
theorem dX0_meet_16 : decode cX0_meet 16 = .ok (.iload_n 2, 1) := by decide +kernel
theorem dX0_meet_17 : decode cX0_meet 17 = .ok (.iload 4, 2) := by decide +kernel
theorem dX0_meet_19 : decode cX0_meet 19 = .ok (.ineg, 1) := by decide +kernel
theorem dX0_meet_20 : decode cX0_meet 20 = .ok (.iload_n 3, 1) := by decide +kernel
theorem dX0_meet_21 : decode cX0_meet 21 = .ok (.ineg, 1) := by decide +kernel
theorem dX0_meet_22 : decode cX0_meet 22 = .ok (.invokevirtual 201, 3) := by decide +kernel
theorem dX0_meet_25 : decode cX0_meet 25 = .ok (.goto 18, 3) := by decide +kernel
theorem dX0_meet_28 : decode cX0_meet 28 = .ok (.iload_n 3, 1) := by decide +kernel
theorem dX0_meet_29 : decode cX0_meet 29 = .ok (.ifCond .le 14, 3) := by decide +kernel
theorem dX0_meet_32 : decode cX0_meet 32 = .ok (.aload_n 0, 1) := by decide +kernel
theorem dX0_meet_33 : decode cX0_meet 33 = .ok (.iload_n 1, 1) := by decide +kernel
theorem dX0_meet_34 : decode cX0_meet 34 = .ok (.sipush 1000, 3) := by decide +kernel
theorem dX0_meet_37 : decode cX0_meet 37 = .ok (.sipush 999, 3) := by decide +kernel
theorem dX0_meet_40 : decode cX0_meet 40 = .ok (.invokevirtual 193, 3) := by decide +kernel
theorem dX0_meet_43 : decode cX0_meet 43 = .ok (.return_, 1) := by decide +kernel
theorem dX0_fit_0 : decode cX0_fit 0 = .ok (.aload_n 0, 1) := by decide +kernel
theorem dX0_fit_1 : decode cX0_fit 1 = .ok (.getfield 23, 3) := by decide +kernel
theorem dX0_fit_4 : decode cX0_fit 4 = .ok (.iload_n 2, 1) := by decide +kernel
theorem dX0_fit_5 : decode cX0_fit 5 = .ok (.iaload, 1) := by decide +kernel
theorem dX0_fit_6 : decode cX0_fit 6 = .ok (.iload_n 3, 1) := by decide +kernel
theorem dX0_fit_7 : decode cX0_fit 7 = .ok (.iadd, 1) := by decide +kernel
theorem dX0_fit_8 : decode cX0_fit 8 = .ok (.istore 5, 2) := by decide +kernel
theorem dX0_fit_10 : decode cX0_fit 10 = .ok (.aload_n 0, 1) := by decide +kernel
theorem dX0_fit_11 : decode cX0_fit 11 = .ok (.getfield 26, 3) := by decide +kernel
theorem dX0_fit_14 : decode cX0_fit 14 = .ok (.iload_n 2, 1) := by decide +kernel
theorem dX0_fit_15 : decode cX0_fit 15 = .ok (.iaload, 1) := by decide +kernel
theorem dX0_fit_16 : decode cX0_fit 16 = .ok (.iload 4, 2) := by decide +kernel
theorem dX0_fit_18 : decode cX0_fit 18 = .ok (.iadd, 1) := by decide +kernel
theorem dX0_fit_19 : decode cX0_fit 19 = .ok (.istore 6, 2) := by decide +kernel
theorem dX0_fit_21 : decode cX0_fit 21 = .ok (.aload_n 0, 1) := by decide +kernel
theorem dX0_fit_22 : decode cX0_fit 22 = .ok (.getfield 26, 3) := by decide +kernel
theorem dX0_fit_25 : decode cX0_fit 25 = .ok (.iload_n 2, 1) := by decide +kernel
theorem dX0_fit_26 : decode cX0_fit 26 = .ok (.iaload, 1) := by decide +kernel
theorem dX0_fit_27 : decode cX0_fit 27 = .ok (.aload_n 0, 1) := by decide +kernel
theorem dX0_fit_28 : decode cX0_fit 28 = .ok (.getfield 23, 3) := by decide +kernel
theorem dX0_fit_31 : decode cX0_fit 31 = .ok (.iload_n 2, 1) := by decide +kernel
theorem dX0_fit_32 : decode cX0_fit 32 = .ok (.iaload, 1) := by decide +kernel
theorem dX0_fit_33 : decode cX0_fit 33 = .ok (.isub, 1) := by decide +kernel
theorem dX0_fit_34 : decode cX0_fit 34 = .ok (.istore 7, 2) := by decide +kernel
theorem dX0_fit_36 : decode cX0_fit 36 = .ok (.iload 7, 2) := by decide +kernel
theorem dX0_fit_38 : decode cX0_fit 38 = .ok (.aload_n 0, 1) := by decide +kernel
theorem dX0_fit_39 : decode cX0_fit 39 = .ok (.getfield 19, 3) := by decide +kernel
theorem dX0_fit_42 : decode cX0_fit 42 = .ok (.iload_n 2, 1) := by decide +kernel
theorem dX0_fit_43 : decode cX0_fit 43 = .ok (.iaload, 1) := by decide +kernel
theorem dX0_fit_44 : decode cX0_fit 44 = .ok (.iconst 1, 1) := by decide +kernel
theorem dX0_fit_45 : decode cX0_fit 45 = .ok (.isub, 1) := by decide +kernel
theorem dX0_fit_46 : decode cX0_fit 46 = .ok (.if_icmp .eq 14, 3) := by decide +kernel
theorem dX0_fit_49 : decode cX0_fit 49 = .ok (.iload 4, 2) := by decide +kernel
theorem dX0_fit_51 : decode cX0_fit 51 = .ok (.iload_n 3, 1) := by decide +kernel
theorem dX0_fit_52 : decode cX0_fit 52 = .ok (.isub, 1) := by decide +kernel
theorem dX0_fit_53 : decode cX0_fit 53 = .ok (.iload 7, 2) := by decide +kernel
theorem dX0_fit_55 : decode cX0_fit 55 = .ok (.iconst 1, 1) := by decide +kernel
theorem dX0_fit_56 : decode cX0_fit 56 = .ok (.isub, 1) := by decide +kernel
theorem dX0_fit_57 : decode cX0_fit 57 = .ok (.if_icmp .lt 7, 3) := by decide +kernel
theorem dX0_fit_60 : decode cX0_fit 60 = .ok (.iconst 1, 1) := by decide +kernel
theorem dX0_fit_61 : decode cX0_fit 61 = .ok (.goto 4, 3) := by decide +kernel
theorem dX0_fit_64 : decode cX0_fit 64 = .ok (.iconst 0, 1) := by decide +kernel
theorem dX0_fit_65 : decode cX0_fit 65 = .ok (.istore 8, 2) := by decide +kernel
theorem dX0_fit_67 : decode cX0_fit 67 = .ok (.aload_n 0, 1) := by decide +kernel
theorem dX0_fit_68 : decode cX0_fit 68 = .ok (.getfield 19, 3) := by decide +kernel
theorem dX0_fit_71 : decode cX0_fit 71 = .ok (.iload_n 1, 1) := by decide +kernel
theorem dX0_fit_72 : decode cX0_fit 72 = .ok (.iaload, 1) := by decide +kernel
theorem dX0_fit_73 : decode cX0_fit 73 = .ok (.ifCond .eq 39, 3) := by decide +kernel
theorem dX0_fit_76 : decode cX0_fit 76 = .ok (.aload_n 0, 1) := by decide +kernel
theorem dX0_fit_77 : decode cX0_fit 77 = .ok (.getfield 19, 3) := by decide +kernel
theorem dX0_fit_80 : decode cX0_fit 80 = .ok (.iload_n 2, 1) := by decide +kernel
theorem dX0_fit_81 : decode cX0_fit 81 = .ok (.iaload, 1) := by decide +kernel
theorem dX0_fit_82 : decode cX0_fit 82 = .ok (.ifCond .le 31, 3) := by decide +kernel
theorem dX0_fit_85 : decode cX0_fit 85 = .ok (.iload 8, 2) := by decide +kernel
theorem dX0_fit_87 : decode cX0_fit 87 = .ok (.ifCond .eq 26, 3) := by decide +kernel
theorem dX0_fit_90 : decode cX0_fit 90 = .ok (.iload 5, 2) := by decide +kernel
theorem dX0_fit_92 : decode cX0_fit 92 = .ok (.aload_n 0, 1) := by decide +kernel
theorem dX0_fit_93 : decode cX0_fit 93 = .ok (.getfield 23, 3) := by decide +kernel
theorem dX0_fit_96 : decode cX0_fit 96 = .ok (.iload_n 1, 1) := by decide +kernel
theorem dX0_fit_97 : decode cX0_fit 97 = .ok (.iaload, 1) := by decide +kernel
theorem dX0_fit_98 : decode cX0_fit 98 = .ok (.if_icmp .gt 15, 3) := by decide +kernel
theorem dX0_fit_101 : decode cX0_fit 101 = .ok (.iload 6, 2) := by decide +kernel
theorem dX0_fit_103 : decode cX0_fit 103 = .ok (.aload_n 0, 1) := by decide +kernel
theorem dX0_fit_104 : decode cX0_fit 104 = .ok (.getfield 26, 3) := by decide +kernel
theorem dX0_fit_107 : decode cX0_fit 107 = .ok (.iload_n 1, 1) := by decide +kernel
theorem dX0_fit_108 : decode cX0_fit 108 = .ok (.iaload, 1) := by decide +kernel
theorem dX0_fit_109 : decode cX0_fit 109 = .ok (.if_icmp .lt 4, 3) := by decide +kernel
theorem dX0_fit_112 : decode cX0_fit 112 = .ok (.return_, 1) := by decide +kernel
theorem dX0_fit_113 : decode cX0_fit 113 = .ok (.aload_n 0, 1) := by decide +kernel
theorem dX0_fit_114 : decode cX0_fit 114 = .ok (.getfield 45, 3) := by decide +kernel
theorem dX0_fit_117 : decode cX0_fit 117 = .ok (.invokestatic 95, 3) := by decide +kernel
theorem dX0_fit_120 : decode cX0_fit 120 = .ok (.aload_n 0, 1) := by decide +kernel
theorem dX0_fit_121 : decode cX0_fit 121 = .ok (.getfield 19, 3) := by decide +kernel
theorem dX0_fit_124 : decode cX0_fit 124 = .ok (.iload_n 2, 1) := by decide +kernel
theorem dX0_fit_125 : decode cX0_fit 125 = .ok (.iaload, 1) := by decide +kernel
theorem dX0_fit_126 : decode cX0_fit 126 = .ok (.ifCond .le 22, 3) := by decide +kernel
theorem dX0_fit_129 : decode cX0_fit 129 = .ok (.iload 8, 2) := by decide +kernel
theorem dX0_fit_131 : decode cX0_fit 131 = .ok (.ifCond .eq 17, 3) := by decide +kernel
theorem dX0_fit_134 : decode cX0_fit 134 = .ok (.aload_n 0, 1) := by decide +kernel
theorem dX0_fit_135 : decode cX0_fit 135 = .ok (.getfield 45, 3) := by decide +kernel
theorem dX0_fit_138 : decode cX0_fit 138 = .ok (.iload 5, 2) := by decide +kernel
theorem dX0_fit_140 : decode cX0_fit 140 = .ok (.iload 6, 2) := by decide +kernel
theorem dX0_fit_142 : decode cX0_fit 142 = .ok (.invokestatic 109, 3) := by decide +kernel
theorem dX0_fit_145 : decode cX0_fit 145 = .ok (.goto 89, 3) := by decide +kernel
theorem dX0_fit_148 : decode cX0_fit 148 = .ok (.aload_n 0, 1) := by decide +kernel
theorem dX0_fit_149 : decode cX0_fit 149 = .ok (.getfield 19, 3) := by decide +kernel
theorem dX0_fit_152 : decode cX0_fit 152 = .ok (.iload_n 2, 1) := by decide +kernel
theorem dX0_fit_153 : decode cX0_fit 153 = .ok (.iaload, 1) := by decide +kernel
theorem dX0_fit_154 : decode cX0_fit 154 = .ok (.ifCond .le 80, 3) := by decide +kernel
theorem dX0_fit_157 : decode cX0_fit 157 = .ok (.aload_n 0, 1) := by decide +kernel
theorem dX0_fit_158 : decode cX0_fit 158 = .ok (.getfield 23, 3) := by decide +kernel
theorem dX0_fit_161 : decode cX0_fit 161 = .ok (.iload_n 2, 1) := by decide +kernel
theorem dX0_fit_162 : decode cX0_fit 162 = .ok (.iaload, 1) := by decide +kernel
theorem dX0_fit_163 : decode cX0_fit 163 = .ok (.istore 9, 2) := by decide +kernel
theorem dX0_fit_165 : decode cX0_fit 165 = .ok (.iconst 0, 1) := by decide +kernel
theorem dX0_fit_166 : decode cX0_fit 166 = .ok (.istore 10, 2) := by decide +kernel
theorem dX0_fit_168 : decode cX0_fit 168 = .ok (.iload 10, 2) := by decide +kernel
theorem dX0_fit_170 : decode cX0_fit 170 = .ok (.sipush 1000, 3) := by decide +kernel
theorem dX0_fit_173 : decode cX0_fit 173 = .ok (.if_icmp .ge 61, 3) := by decide +kernel
theorem dX0_fit_176 : decode cX0_fit 176 = .ok (.iload 9, 2) := by decide +kernel
theorem dX0_fit_178 : decode cX0_fit 178 = .ok (.sipush 1000, 3) := by decide +kernel
theorem dX0_fit_181 : decode cX0_fit 181 = .ok (.if_icmp .ge 53, 3) := by decide +kernel
theorem dX0_fit_184 : decode cX0_fit 184 = .ok (.aload_n 0, 1) := by decide +kernel
theorem dX0_fit_185 : decode cX0_fit 185 = .ok (.getfield 16, 3) := by decide +kernel
theorem dX0_fit_188 : decode cX0_fit 188 = .ok (.iload_n 2, 1) := by decide +kernel
theorem dX0_fit_189 : decode cX0_fit 189 = .ok (.aaload, 1) := by decide +kernel
theorem dX0_fit_190 : decode cX0_fit 190 = .ok (.iload 9, 2) := by decide +kernel
theorem dX0_fit_192 : decode cX0_fit 192 = .ok (.invokestatic 204, 3) := by decide +kernel
theorem dX0_fit_195 : decode cX0_fit 195 = .ok (.istore 11, 2) := by decide +kernel
theorem dX0_fit_197 : decode cX0_fit 197 = .ok (.aload_n 0, 1) := by decide +kernel
theorem dX0_fit_198 : decode cX0_fit 198 = .ok (.getfield 45, 3) := by decide +kernel
theorem dX0_fit_201 : decode cX0_fit 201 = .ok (.iload 9, 2) := by decide +kernel
theorem dX0_fit_203 : decode cX0_fit 203 = .ok (.iload_n 3, 1) := by decide +kernel
theorem dX0_fit_204 : decode cX0_fit 204 = .ok (.iadd, 1) := by decide +kernel
theorem dX0_fit_205 : decode cX0_fit 205 = .ok (.iload 11, 2) := by decide +kernel
theorem dX0_fit_207 : decode cX0_fit 207 = .ok (.iconst 1, 1) := by decide +kernel
theorem dX0_fit_208 : decode cX0_fit 208 = .ok (.isub, 1) := by decide +kernel
theorem dX0_fit_209 : decode cX0_fit 209 = .ok (.iload 4, 2) := by decide +kernel
theorem dX0_fit_211 : decode cX0_fit 211 = .ok (.iadd, 1) := by decide +kernel
theorem dX0_fit_212 : decode cX0_fit 212 = .ok (.invokestatic 109, 3) := by decide +kernel
theorem dX0_fit_215 : decode cX0_fit 215 = .ok (.aload_n 0, 1) := by decide +kernel
theorem dX0_fit_216 : decode cX0_fit 216 = .ok (.getfield 16, 3) := by decide +kernel
theorem dX0_fit_219 : decode cX0_fit 219 = .ok (.iload_n 2, 1) := by decide +kernel
theorem dX0_fit_220 : decode cX0_fit 220 = .ok (.aaload, 1) := by decide +kernel
theorem dX0_fit_221 : decode cX0_fit 221 = .ok (.iload 11, 2) := by decide +kernel
theorem dX0_fit_223 : decode cX0_fit 223 = .ok (.invokestatic 140, 3) := by decide +kernel
theorem dX0_fit_226 : decode cX0_fit 226 = .ok (.istore 9, 2) := by decide +kernel
theorem dX0_fit_228 : decode cX0_fit 228 = .ok (.iinc 10 1, 3) := by decide +kernel
theorem dX0_fit_231 : decode cX0_fit 231 = .ok (.goto (-63), 3) := by decide +kernel
theorem dX0_fit_234 : decode cX0_fit 234 = .ok (.aload_n 0, 1) := by decide +kernel
theorem dX0_fit_235 : decode cX0_fit 235 = .ok (.getfield 19, 3) := by decide +kernel
theorem dX0_fit_238 : decode cX0_fit 238 = .ok (.iload_n 1, 1) := by decide +kernel
theorem dX0_fit_239 : decode cX0_fit 239 = .ok (.iaload, 1) := by decide +kernel
theorem dX0_fit_240 : decode cX0_fit 240 = .ok (.istore 9, 2) := by decide +kernel
theorem dX0_fit_242 : decode cX0_fit 242 = .ok (.aload_n 0, 1) := by decide +kernel
theorem dX0_fit_243 : decode cX0_fit 243 = .ok (.iload_n 1, 1) := by decide +kernel
theorem dX0_fit_244 : decode cX0_fit 244 = .ok (.aload_n 0, 1) := by decide +kernel
theorem dX0_fit_245 : decode cX0_fit 245 = .ok (.getfield 45, 3) := by decide +kernel
theorem dX0_fit_248 : decode cX0_fit 248 = .ok (.invokevirtual 168, 3) := by decide +kernel
theorem dX0_fit_251 : decode cX0_fit 251 = .ok (.aload_n 0, 1) := by decide +kernel
theorem dX0_fit_252 : decode cX0_fit 252 = .ok (.iload_n 1, 1) := by decide +kernel
theorem dX0_fit_253 : decode cX0_fit 253 = .ok (.iload 9, 2) := by decide +kernel
theorem dX0_fit_255 : decode cX0_fit 255 = .ok (.invokevirtual 207, 3) := by decide +kernel
theorem dX0_fit_258 : decode cX0_fit 258 = .ok (.return_, 1) := by decide +kernel
theorem dX0_limit_0 : decode cX0_limit 0 = .ok (.aload_n 0, 1) := by decide +kernel
theorem dX0_limit_1 : decode cX0_limit 1 = .ok (.getfield 45, 3) := by decide +kernel
theorem dX0_limit_4 : decode cX0_limit 4 = .ok (.invokestatic 95, 3) := by decide +kernel
theorem dX0_limit_7 : decode cX0_limit 7 = .ok (.aload_n 0, 1) := by decide +kernel
theorem dX0_limit_8 : decode cX0_limit 8 = .ok (.getfield 45, 3) := by decide +kernel
theorem dX0_limit_11 : decode cX0_limit 11 = .ok (.iload_n 2, 1) := by decide +kernel
theorem dX0_limit_12 : decode cX0_limit 12 = .ok (.iload_n 3, 1) := by decide +kernel
theorem dX0_limit_13 : decode cX0_limit 13 = .ok (.invokestatic 109, 3) := by decide +kernel
theorem dX0_limit_16 : decode cX0_limit 16 = .ok (.aload_n 0, 1) := by decide +kernel
theorem dX0_limit_17 : decode cX0_limit 17 = .ok (.getfield 19, 3) := by decide +kernel
theorem dX0_limit_20 : decode cX0_limit 20 = .ok (.iload_n 1, 1) := by decide +kernel
theorem dX0_limit_21 : decode cX0_limit 21 = .ok (.iaload, 1) := by decide +kernel
theorem dX0_limit_22 : decode cX0_limit 22 = .ok (.istore 4, 2) := by decide +kernel
theorem dX0_limit_24 : decode cX0_limit 24 = .ok (.aload_n 0, 1) := by decide +kernel
theorem dX0_limit_25 : decode cX0_limit 25 = .ok (.iload_n 1, 1) := by decide +kernel
theorem dX0_limit_26 : decode cX0_limit 26 = .ok (.aload_n 0, 1) := by decide +kernel
theorem dX0_limit_27 : decode cX0_limit 27 = .ok (.getfield 45, 3) := by decide +kernel
theorem dX0_limit_30 : decode cX0_limit 30 = .ok (.invokevirtual 168, 3) := by decide +kernel
theorem dX0_limit_33 : decode cX0_limit 33 = .ok (.aload_n 0, 1) := by decide +kernel
theorem dX0_limit_34 : decode cX0_limit 34 = .ok (.iload_n 1, 1) := by decide +kernel
theorem dX0_limit_35 : decode cX0_limit 35 = .ok (.iload 4, 2) := by decide +kernel
theorem dX0_limit_37 : decode cX0_limit 37 = .ok (.invokevirtual 207, 3) := by decide +kernel
theorem dX0_limit_40 : decode cX0_limit 40 = .ok (.return_, 1) := by decide +kernel
theorem dX0_keepOnly_0 : decode cX0_keepOnly 0 = .ok (.iconst 0, 1) := by decide +kernel
theorem dX0_keepOnly_1 : decode cX0_keepOnly 1 = .ok (.istore_n 3, 1) := by decide +kernel
theorem dX0_keepOnly_2 : decode cX0_keepOnly 2 = .ok (.iconst (-1), 1) := by decide +kernel
theorem dX0_keepOnly_3 : decode cX0_keepOnly 3 = .ok (.istore 4, 2) := by decide +kernel
theorem dX0_keepOnly_5 : decode cX0_keepOnly 5 = .ok (.iconst (-1), 1) := by decide +kernel
theorem dX0_keepOnly_6 : decode cX0_keepOnly 6 = .ok (.istore 5, 2) := by decide +kernel
theorem dX0_keepOnly_8 : decode cX0_keepOnly 8 = .ok (.iconst 0, 1) := by decide +kernel
theorem dX0_keepOnly_9 : decode cX0_keepOnly 9 = .ok (.istore 6, 2) := by decide +kernel
theorem dX0_keepOnly_11 : decode cX0_keepOnly 11 = .ok (.iload 6, 2) := by decide +kernel
theorem dX0_keepOnly_13 : decode cX0_keepOnly 13 = .ok (.bipush 16, 2) := by decide +kernel
theorem dX0_keepOnly_15 : decode cX0_keepOnly 15 = .ok (.if_icmp .ge 91, 3) := by decide +kernel
theorem dX0_keepOnly_18 : decode cX0_keepOnly 18 = .ok (.aload_n 0, 1) := by decide +kernel
theorem dX0_keepOnly_19 : decode cX0_keepOnly 19 = .ok (.getfield 16, 3) := by decide +kernel
theorem dX0_keepOnly_22 : decode cX0_keepOnly 22 = .ok (.iload_n 1, 1) := by decide +kernel
theorem dX0_keepOnly_23 : decode cX0_keepOnly 23 = .ok (.aaload, 1) := by decide +kernel
theorem dX0_keepOnly_24 : decode cX0_keepOnly 24 = .ok (.iload 6, 2) := by decide +kernel
theorem dX0_keepOnly_26 : decode cX0_keepOnly 26 = .ok (.laload, 1) := by decide +kernel
theorem dX0_keepOnly_27 : decode cX0_keepOnly 27 = .ok (.aload_n 2, 1) := by decide +kernel
theorem dX0_keepOnly_28 : decode cX0_keepOnly 28 = .ok (.iload 6, 2) := by decide +kernel
theorem dX0_keepOnly_30 : decode cX0_keepOnly 30 = .ok (.laload, 1) := by decide +kernel
theorem dX0_keepOnly_31 : decode cX0_keepOnly 31 = .ok (.land, 1) := by decide +kernel
theorem dX0_keepOnly_32 : decode cX0_keepOnly 32 = .ok (.lstore 7, 2) := by decide +kernel
theorem dX0_keepOnly_34 : decode cX0_keepOnly 34 = .ok (.aload_n 0, 1) := by decide +kernel
theorem dX0_keepOnly_35 : decode cX0_keepOnly 35 = .ok (.getfield 16, 3) := by decide +kernel
theorem dX0_keepOnly_38 : decode cX0_keepOnly 38 = .ok (.iload_n 1, 1) := by decide +kernel
theorem dX0_keepOnly_39 : decode cX0_keepOnly 39 = .ok (.aaload, 1) := by decide +kernel
theorem dX0_keepOnly_40 : decode cX0_keepOnly 40 = .ok (.iload 6, 2) := by decide +kernel
theorem dX0_keepOnly_42 : decode cX0_keepOnly 42 = .ok (.lload 7, 2) := by decide +kernel
theorem dX0_keepOnly_44 : decode cX0_keepOnly 44 = .ok (.lastore, 1) := by decide +kernel
theorem dX0_keepOnly_45 : decode cX0_keepOnly 45 = .ok (.lload 7, 2) := by decide +kernel
theorem dX0_keepOnly_47 : decode cX0_keepOnly 47 = .ok (.lconst 0, 1) := by decide +kernel
theorem dX0_keepOnly_48 : decode cX0_keepOnly 48 = .ok (.lcmp, 1) := by decide +kernel
theorem dX0_keepOnly_49 : decode cX0_keepOnly 49 = .ok (.ifCond .eq 51, 3) := by decide +kernel
theorem dX0_keepOnly_52 : decode cX0_keepOnly 52 = .ok (.iload_n 3, 1) := by decide +kernel
theorem dX0_keepOnly_53 : decode cX0_keepOnly 53 = .ok (.lload 7, 2) := by decide +kernel
theorem dX0_keepOnly_55 : decode cX0_keepOnly 55 = .ok (.invokestatic 211, 3) := by decide +kernel
theorem dX0_keepOnly_58 : decode cX0_keepOnly 58 = .ok (.iadd, 1) := by decide +kernel
theorem dX0_keepOnly_59 : decode cX0_keepOnly 59 = .ok (.istore_n 3, 1) := by decide +kernel
theorem dX0_keepOnly_60 : decode cX0_keepOnly 60 = .ok (.iload 4, 2) := by decide +kernel
theorem dX0_keepOnly_62 : decode cX0_keepOnly 62 = .ok (.iconst (-1), 1) := by decide +kernel
theorem dX0_keepOnly_63 : decode cX0_keepOnly 63 = .ok (.if_icmp .ne 17, 3) := by decide +kernel
theorem dX0_keepOnly_66 : decode cX0_keepOnly 66 = .ok (.bipush 64, 2) := by decide +kernel
theorem dX0_keepOnly_68 : decode cX0_keepOnly 68 = .ok (.iload 6, 2) := by decide +kernel
theorem dX0_keepOnly_70 : decode cX0_keepOnly 70 = .ok (.imul, 1) := by decide +kernel
theorem dX0_keepOnly_71 : decode cX0_keepOnly 71 = .ok (.lload 7, 2) := by decide +kernel
theorem dX0_keepOnly_73 : decode cX0_keepOnly 73 = .ok (.invokestatic 217, 3) := by decide +kernel
theorem dX0_keepOnly_76 : decode cX0_keepOnly 76 = .ok (.iadd, 1) := by decide +kernel
theorem dX0_keepOnly_77 : decode cX0_keepOnly 77 = .ok (.goto 5, 3) := by decide +kernel
theorem dX0_keepOnly_80 : decode cX0_keepOnly 80 = .ok (.iload 4, 2) := by decide +kernel
theorem dX0_keepOnly_82 : decode cX0_keepOnly 82 = .ok (.istore 4, 2) := by decide +kernel
theorem dX0_keepOnly_84 : decode cX0_keepOnly 84 = .ok (.bipush 64, 2) := by decide +kernel
theorem dX0_keepOnly_86 : decode cX0_keepOnly 86 = .ok (.iload 6, 2) := by decide +kernel
theorem dX0_keepOnly_88 : decode cX0_keepOnly 88 = .ok (.imul, 1) := by decide +kernel
theorem dX0_keepOnly_89 : decode cX0_keepOnly 89 = .ok (.bipush 63, 2) := by decide +kernel
theorem dX0_keepOnly_91 : decode cX0_keepOnly 91 = .ok (.iadd, 1) := by decide +kernel
theorem dX0_keepOnly_92 : decode cX0_keepOnly 92 = .ok (.lload 7, 2) := by decide +kernel
theorem dX0_keepOnly_94 : decode cX0_keepOnly 94 = .ok (.invokestatic 220, 3) := by decide +kernel
theorem dX0_keepOnly_97 : decode cX0_keepOnly 97 = .ok (.isub, 1) := by decide +kernel
theorem dX0_keepOnly_98 : decode cX0_keepOnly 98 = .ok (.istore 5, 2) := by decide +kernel
theorem dX0_keepOnly_100 : decode cX0_keepOnly 100 = .ok (.iinc 6 1, 3) := by decide +kernel
theorem dX0_keepOnly_103 : decode cX0_keepOnly 103 = .ok (.goto (-92), 3) := by decide +kernel
theorem dX0_keepOnly_106 : decode cX0_keepOnly 106 = .ok (.aload_n 0, 1) := by decide +kernel
theorem dX0_keepOnly_107 : decode cX0_keepOnly 107 = .ok (.getfield 19, 3) := by decide +kernel
theorem dX0_keepOnly_110 : decode cX0_keepOnly 110 = .ok (.iload_n 1, 1) := by decide +kernel
theorem dX0_keepOnly_111 : decode cX0_keepOnly 111 = .ok (.iload_n 3, 1) := by decide +kernel
theorem dX0_keepOnly_112 : decode cX0_keepOnly 112 = .ok (.iastore, 1) := by decide +kernel
theorem dX0_keepOnly_113 : decode cX0_keepOnly 113 = .ok (.aload_n 0, 1) := by decide +kernel
theorem dX0_keepOnly_114 : decode cX0_keepOnly 114 = .ok (.getfield 23, 3) := by decide +kernel
theorem dX0_keepOnly_117 : decode cX0_keepOnly 117 = .ok (.iload_n 1, 1) := by decide +kernel
theorem dX0_keepOnly_118 : decode cX0_keepOnly 118 = .ok (.iload 4, 2) := by decide +kernel
theorem dX0_keepOnly_120 : decode cX0_keepOnly 120 = .ok (.iastore, 1) := by decide +kernel
theorem dX0_keepOnly_121 : decode cX0_keepOnly 121 = .ok (.aload_n 0, 1) := by decide +kernel
theorem dX0_keepOnly_122 : decode cX0_keepOnly 122 = .ok (.getfield 26, 3) := by decide +kernel
theorem dX0_keepOnly_125 : decode cX0_keepOnly 125 = .ok (.iload_n 1, 1) := by decide +kernel
theorem dX0_keepOnly_126 : decode cX0_keepOnly 126 = .ok (.iload 5, 2) := by decide +kernel
theorem dX0_keepOnly_128 : decode cX0_keepOnly 128 = .ok (.iastore, 1) := by decide +kernel
theorem dX0_keepOnly_129 : decode cX0_keepOnly 129 = .ok (.return_, 1) := by decide +kernel
theorem dX0_note_0 : decode cX0_note 0 = .ok (.aload_n 0, 1) := by decide +kernel
theorem dX0_note_1 : decode cX0_note 1 = .ok (.getfield 19, 3) := by decide +kernel
theorem dX0_note_4 : decode cX0_note 4 = .ok (.iload_n 1, 1) := by decide +kernel
theorem dX0_note_5 : decode cX0_note 5 = .ok (.iaload, 1) := by decide +kernel
theorem dX0_note_6 : decode cX0_note 6 = .ok (.iload_n 2, 1) := by decide +kernel
theorem dX0_note_7 : decode cX0_note 7 = .ok (.if_icmp .ne 4, 3) := by decide +kernel
theorem dX0_note_10 : decode cX0_note 10 = .ok (.return_, 1) := by decide +kernel
theorem dX0_note_11 : decode cX0_note 11 = .ok (.aload_n 0, 1) := by decide +kernel
theorem dX0_note_12 : decode cX0_note 12 = .ok (.iconst 1, 1) := by decide +kernel
theorem dX0_note_13 : decode cX0_note 13 = .ok (.putfield 52, 3) := by decide +kernel
theorem dX0_note_16 : decode cX0_note 16 = .ok (.aload_n 0, 1) := by decide +kernel
theorem dX0_note_17 : decode cX0_note 17 = .ok (.getfield 29, 3) := by decide +kernel
theorem dX0_note_20 : decode cX0_note 20 = .ok (.aload_n 0, 1) := by decide +kernel
theorem dX0_note_21 : decode cX0_note 21 = .ok (.getfield 49, 3) := by decide +kernel
theorem dX0_note_24 : decode cX0_note 24 = .ok (.dup2, 1) := by decide +kernel
theorem dX0_note_25 : decode cX0_note 25 = .ok (.iaload, 1) := by decide +kernel
theorem dX0_note_26 : decode cX0_note 26 = .ok (.iload_n 2, 1) := by decide +kernel
theorem dX0_note_27 : decode cX0_note 27 = .ok (.aload_n 0, 1) := by decide +kernel
theorem dX0_note_28 : decode cX0_note 28 = .ok (.getfield 19, 3) := by decide +kernel
theorem dX0_note_31 : decode cX0_note 31 = .ok (.iload_n 1, 1) := by decide +kernel
theorem dX0_note_32 : decode cX0_note 32 = .ok (.iaload, 1) := by decide +kernel
theorem dX0_note_33 : decode cX0_note 33 = .ok (.isub, 1) := by decide +kernel
theorem dX0_note_34 : decode cX0_note 34 = .ok (.iadd, 1) := by decide +kernel
theorem dX0_note_35 : decode cX0_note 35 = .ok (.iastore, 1) := by decide +kernel
theorem dX0_note_36 : decode cX0_note 36 = .ok (.aload_n 0, 1) := by decide +kernel
theorem dX0_note_37 : decode cX0_note 37 = .ok (.getfield 19, 3) := by decide +kernel
theorem dX0_note_40 : decode cX0_note 40 = .ok (.iload_n 1, 1) := by decide +kernel
theorem dX0_note_41 : decode cX0_note 41 = .ok (.iaload, 1) := by decide +kernel
theorem dX0_note_42 : decode cX0_note 42 = .ok (.ifCond .ne 23, 3) := by decide +kernel
theorem dX0_note_45 : decode cX0_note 45 = .ok (.aload_n 0, 1) := by decide +kernel
theorem dX0_note_46 : decode cX0_note 46 = .ok (.invokevirtual 128, 3) := by decide +kernel
theorem dX0_note_49 : decode cX0_note 49 = .ok (.ifCond .ne 16, 3) := by decide +kernel
theorem dX0_note_52 : decode cX0_note 52 = .ok (.aload_n 0, 1) := by decide +kernel
theorem dX0_note_53 : decode cX0_note 53 = .ok (.aload_n 0, 1) := by decide +kernel
theorem dX0_note_54 : decode cX0_note 54 = .ok (.getfield 49, 3) := by decide +kernel
theorem dX0_note_57 : decode cX0_note 57 = .ok (.putfield 36, 3) := by decide +kernel
theorem dX0_note_60 : decode cX0_note 60 = .ok (.aload_n 0, 1) := by decide +kernel
theorem dX0_note_61 : decode cX0_note 61 = .ok (.iload_n 1, 1) := by decide +kernel
theorem dX0_note_62 : decode cX0_note 62 = .ok (.putfield 39, 3) := by decide +kernel
theorem dX0_note_65 : decode cX0_note 65 = .ok (.return_, 1) := by decide +kernel
theorem dX1_init_0 : decode cX1_init 0 = .ok (.aload_n 0, 1) := by decide +kernel
theorem dX1_init_1 : decode cX1_init 1 = .ok (.invokespecial 3, 3) := by decide +kernel
theorem dX1_init_4 : decode cX1_init 4 = .ok (.aload_n 0, 1) := by decide +kernel
theorem dX1_init_5 : decode cX1_init 5 = .ok (.iconst 0, 1) := by decide +kernel
theorem dX1_init_6 : decode cX1_init 6 = .ok (.putfield 9, 3) := by decide +kernel
theorem dX1_init_9 : decode cX1_init 9 = .ok (.aload_n 0, 1) := by decide +kernel
theorem dX1_init_10 : decode cX1_init 10 = .ok (.bipush 6, 2) := by decide +kernel
theorem dX1_init_12 : decode cX1_init 12 = .ok (.newarray .int, 2) := by decide +kernel
theorem dX1_init_14 : decode cX1_init 14 = .ok (.putfield 15, 3) := by decide +kernel
theorem dX1_init_17 : decode cX1_init 17 = .ok (.return_, 1) := by decide +kernel
theorem dX1_copyFrom_0 : decode cX1_copyFrom 0 = .ok (.aload_n 0, 1) := by decide +kernel
theorem dX1_copyFrom_1 : decode cX1_copyFrom 1 = .ok (.aload_n 1, 1) := by decide +kernel
theorem dX1_copyFrom_2 : decode cX1_copyFrom 2 = .ok (.getfield 9, 3) := by decide +kernel
theorem dX1_copyFrom_5 : decode cX1_copyFrom 5 = .ok (.putfield 9, 3) := by decide +kernel
theorem dX1_copyFrom_8 : decode cX1_copyFrom 8 = .ok (.aload_n 1, 1) := by decide +kernel
theorem dX1_copyFrom_9 : decode cX1_copyFrom 9 = .ok (.getfield 15, 3) := by decide +kernel
theorem dX1_copyFrom_12 : decode cX1_copyFrom 12 = .ok (.iconst 0, 1) := by decide +kernel
theorem dX1_copyFrom_13 : decode cX1_copyFrom 13 = .ok (.aload_n 0, 1) := by decide +kernel
theorem dX1_copyFrom_14 : decode cX1_copyFrom 14 = .ok (.getfield 15, 3) := by decide +kernel
theorem dX1_copyFrom_17 : decode cX1_copyFrom 17 = .ok (.iconst 0, 1) := by decide +kernel
theorem dX1_copyFrom_18 : decode cX1_copyFrom 18 = .ok (.bipush 6, 2) := by decide +kernel
theorem dX1_copyFrom_20 : decode cX1_copyFrom 20 = .ok (.invokestatic 19, 3) := by decide +kernel
theorem dX1_copyFrom_23 : decode cX1_copyFrom 23 = .ok (.return_, 1) := by decide +kernel
theorem dX2_init_0 : decode cX2_init 0 = .ok (.aload_n 0, 1) := by decide +kernel
theorem dX2_init_1 : decode cX2_init 1 = .ok (.invokespecial 3, 3) := by decide +kernel
theorem dX2_init_4 : decode cX2_init 4 = .ok (.aload_n 0, 1) := by decide +kernel
theorem dX2_init_5 : decode cX2_init 5 = .ok (.new 9, 3) := by decide +kernel
theorem dX2_init_8 : decode cX2_init 8 = .ok (.dup, 1) := by decide +kernel
theorem dX2_init_9 : decode cX2_init 9 = .ok (.invokespecial 11, 3) := by decide +kernel
theorem dX2_init_12 : decode cX2_init 12 = .ok (.putfield 12, 3) := by decide +kernel
theorem dX2_init_15 : decode cX2_init 15 = .ok (.aload_n 0, 1) := by decide +kernel
theorem dX2_init_16 : decode cX2_init 16 = .ok (.iconst 0, 1) := by decide +kernel
theorem dX2_init_17 : decode cX2_init 17 = .ok (.putfield 18, 3) := by decide +kernel
theorem dX2_init_20 : decode cX2_init 20 = .ok (.aload_n 0, 1) := by decide +kernel
theorem dX2_init_21 : decode cX2_init 21 = .ok (.iconst (-1), 1) := by decide +kernel
theorem dX2_init_22 : decode cX2_init 22 = .ok (.putfield 22, 3) := by decide +kernel
theorem dX2_init_25 : decode cX2_init 25 = .ok (.aload_n 0, 1) := by decide +kernel
theorem dX2_init_26 : decode cX2_init 26 = .ok (.iconst 0, 1) := by decide +kernel
theorem dX2_init_27 : decode cX2_init 27 = .ok (.putfield 25, 3) := by decide +kernel
theorem dX2_init_30 : decode cX2_init 30 = .ok (.aload_n 0, 1) := by decide +kernel
theorem dX2_init_31 : decode cX2_init 31 = .ok (.iconst 0, 1) := by decide +kernel
theorem dX2_init_32 : decode cX2_init 32 = .ok (.putfield 28, 3) := by decide +kernel
theorem dX2_init_35 : decode cX2_init 35 = .ok (.aload_n 0, 1) := by decide +kernel
theorem dX2_init_36 : decode cX2_init 36 = .ok (.iconst 0, 1) := by decide +kernel
theorem dX2_init_37 : decode cX2_init 37 = .ok (.putfield 31, 3) := by decide +kernel
theorem dX2_init_40 : decode cX2_init 40 = .ok (.aload_n 0, 1) := by decide +kernel
theorem dX2_init_41 : decode cX2_init 41 = .ok (.iconst 0, 1) := by decide +kernel
theorem dX2_init_42 : decode cX2_init 42 = .ok (.putfield 34, 3) := by decide +kernel
theorem dX2_init_45 : decode cX2_init 45 = .ok (.aload_n 0, 1) := by decide +kernel
theorem dX2_init_46 : decode cX2_init 46 = .ok (.iconst 0, 1) := by decide +kernel
theorem dX2_init_47 : decode cX2_init 47 = .ok (.putfield 37, 3) := by decide +kernel
theorem dX2_init_50 : decode cX2_init 50 = .ok (.aload_n 0, 1) := by decide +kernel
theorem dX2_init_51 : decode cX2_init 51 = .ok (.iconst 0, 1) := by decide +kernel
theorem dX2_init_52 : decode cX2_init 52 = .ok (.putfield 41, 3) := by decide +kernel
theorem dX2_init_55 : decode cX2_init 55 = .ok (.aload_n 0, 1) := by decide +kernel
theorem dX2_init_56 : decode cX2_init 56 = .ok (.bipush 12, 2) := by decide +kernel
theorem dX2_init_58 : decode cX2_init 58 = .ok (.newarray .int, 2) := by decide +kernel
theorem dX2_init_60 : decode cX2_init 60 = .ok (.putfield 44, 3) := by decide +kernel
theorem dX2_init_63 : decode cX2_init 63 = .ok (.aload_n 0, 1) := by decide +kernel
theorem dX2_init_64 : decode cX2_init 64 = .ok (.iconst 4, 1) := by decide +kernel
theorem dX2_init_65 : decode cX2_init 65 = .ok (.newarray .int, 2) := by decide +kernel
theorem dX2_init_67 : decode cX2_init 67 = .ok (.putfield 48, 3) := by decide +kernel
theorem dX2_init_70 : decode cX2_init 70 = .ok (.aload_n 0, 1) := by decide +kernel
theorem dX2_init_71 : decode cX2_init 71 = .ok (.aload_n 1, 1) := by decide +kernel
theorem dX2_init_72 : decode cX2_init 72 = .ok (.putfield 51, 3) := by decide +kernel
theorem dX2_init_75 : decode cX2_init 75 = .ok (.return_, 1) := by decide +kernel
theorem dX2_read_0 : decode cX2_read 0 = .ok (.aload_n 0, 1) := by decide +kernel
theorem dX2_read_1 : decode cX2_read 1 = .ok (.getfield 12, 3) := by decide +kernel
theorem dX2_read_4 : decode cX2_read 4 = .ok (.invokevirtual 54, 3) := by decide +kernel
theorem dX2_read_7 : decode cX2_read 7 = .ok (.aload_n 0, 1) := by decide +kernel
theorem dX2_read_8 : decode cX2_read 8 = .ok (.iconst 0, 1) := by decide +kernel
theorem dX2_read_9 : decode cX2_read 9 = .ok (.putfield 18, 3) := by decide +kernel
theorem dX2_read_12 : decode cX2_read 12 = .ok (.aload_n 0, 1) := by decide +kernel
theorem dX2_read_13 : decode cX2_read 13 = .ok (.iconst (-1), 1) := by decide +kernel
theorem dX2_read_14 : decode cX2_read 14 = .ok (.putfield 22, 3) := by decide +kernel
theorem dX2_read_17 : decode cX2_read 17 = .ok (.aload_n 0, 1) := by decide +kernel
theorem dX2_read_18 : decode cX2_read 18 = .ok (.iload_n 1, 1) := by decide +kernel
theorem dX2_read_19 : decode cX2_read 19 = .ok (.putfield 25, 3) := by decide +kernel
theorem dX2_read_22 : decode cX2_read 22 = .ok (.aload_n 0, 1) := by decide +kernel
theorem dX2_read_23 : decode cX2_read 23 = .ok (.iconst 0, 1) := by decide +kernel
theorem dX2_read_24 : decode cX2_read 24 = .ok (.putfield 28, 3) := by decide +kernel
theorem dX2_read_27 : decode cX2_read 27 = .ok (.aload_n 0, 1) := by decide +kernel
theorem dX2_read_28 : decode cX2_read 28 = .ok (.iconst 0, 1) := by decide +kernel
theorem dX2_read_29 : decode cX2_read 29 = .ok (.putfield 37, 3) := by decide +kernel
theorem dX2_read_32 : decode cX2_read 32 = .ok (.aload_n 0, 1) := by decide +kernel
theorem dX2_read_33 : decode cX2_read 33 = .ok (.iconst 0, 1) := by decide +kernel
theorem dX2_read_34 : decode cX2_read 34 = .ok (.putfield 41, 3) := by decide +kernel
theorem dX2_read_37 : decode cX2_read 37 = .ok (.aload_n 0, 1) := by decide +kernel
theorem dX2_read_38 : decode cX2_read 38 = .ok (.iconst 1, 1) := by decide +kernel
theorem dX2_read_39 : decode cX2_read 39 = .ok (.invokevirtual 57, 3) := by decide +kernel
theorem dX2_read_42 : decode cX2_read 42 = .ok (.iconst 0, 1) := by decide +kernel
theorem dX2_read_43 : decode cX2_read 43 = .ok (.istore_n 2, 1) := by decide +kernel
theorem dX2_read_44 : decode cX2_read 44 = .ok (.iload_n 2, 1) := by decide +kernel
theorem dX2_read_45 : decode cX2_read 45 = .ok (.sipush 500, 3) := by decide +kernel
theorem dX2_read_48 : decode cX2_read 48 = .ok (.if_icmp .ge 29, 3) := by decide +kernel
theorem dX2_read_51 : decode cX2_read 51 = .ok (.aload_n 0, 1) := by decide +kernel
theorem dX2_read_52 : decode cX2_read 52 = .ok (.getfield 18, 3) := by decide +kernel
theorem dX2_read_55 : decode cX2_read 55 = .ok (.ifCond .ne 22, 3) := by decide +kernel
theorem dX2_read_58 : decode cX2_read 58 = .ok (.aload_n 0, 1) := by decide +kernel
theorem dX2_read_59 : decode cX2_read 59 = .ok (.invokevirtual 61, 3) := by decide +kernel
theorem dX2_read_62 : decode cX2_read 62 = .ok (.iconst (-1), 1) := by decide +kernel
theorem dX2_read_63 : decode cX2_read 63 = .ok (.if_icmp .eq 14, 3) := by decide +kernel
theorem dX2_read_66 : decode cX2_read 66 = .ok (.aload_n 0, 1) := by decide +kernel
theorem dX2_read_67 : decode cX2_read 67 = .ok (.iconst 0, 1) := by decide +kernel
theorem dX2_read_68 : decode cX2_read 68 = .ok (.invokevirtual 57, 3) := by decide +kernel
theorem dX2_read_71 : decode cX2_read 71 = .ok (.iinc 2 1, 3) := by decide +kernel
theorem dX2_read_74 : decode cX2_read 74 = .ok (.goto (-30), 3) := by decide +kernel
theorem dX2_read_77 : decode cX2_read 77 = .ok (.return_, 1) := by decide +kernel
theorem dX2_readLine_0 : decode cX2_readLine 0 = .ok (.aload_n 0, 1) := by decide +kernel
theorem dX2_readLine_1 : decode cX2_readLine 1 = .ok (.invokevirtual 65, 3) := by decide +kernel
theorem dX2_readLine_4 : decode cX2_readLine 4 = .ok (.aload_n 0, 1) := by decide +kernel
theorem dX2_readLine_5 : decode cX2_readLine 5 = .ok (.invokevirtual 68, 3) := by decide +kernel
theorem dX2_readLine_8 : decode cX2_readLine 8 = .ok (.istore_n 2, 1) := by decide +kernel
theorem dX2_readLine_9 : decode cX2_readLine 9 = .ok (.iload_n 2, 1) := by decide +kernel
theorem dX2_readLine_10 : decode cX2_readLine 10 = .ok (.iconst (-1), 1) := by decide +kernel
theorem dX2_readLine_11 : decode cX2_readLine 11 = .ok (.if_icmp .eq 13, 3) := by decide +kernel
theorem dX2_readLine_14 : decode cX2_readLine 14 = .ok (.iload_n 1, 1) := by decide +kernel
theorem dX2_readLine_15 : decode cX2_readLine 15 = .ok (.ifCond .eq 19, 3) := by decide +kernel
theorem dX2_readLine_18 : decode cX2_readLine 18 = .ok (.iload_n 2, 1) := by decide +kernel
theorem dX2_readLine_19 : decode cX2_readLine 19 = .ok (.bipush 6, 2) := by decide +kernel
theorem dX2_readLine_21 : decode cX2_readLine 21 = .ok (.if_icmp .eq 13, 3) := by decide +kernel
theorem dX2_readLine_24 : decode cX2_readLine 24 = .ok (.aload_n 0, 1) := by decide +kernel
theorem dX2_readLine_25 : decode cX2_readLine 25 = .ok (.iconst 1, 1) := by decide +kernel
theorem dX2_readLine_26 : decode cX2_readLine 26 = .ok (.aload_n 0, 1) := by decide +kernel
theorem dX2_readLine_27 : decode cX2_readLine 27 = .ok (.getfield 31, 3) := by decide +kernel
theorem dX2_readLine_30 : decode cX2_readLine 30 = .ok (.invokevirtual 71, 3) := by decide +kernel
theorem dX2_readLine_33 : decode cX2_readLine 33 = .ok (.return_, 1) := by decide +kernel
theorem dX2_readLine_34 : decode cX2_readLine 34 = .ok (.iload_n 2, 1) := by decide +kernel
theorem dX2_readLine_35 : decode cX2_readLine 35 = .ok (.tableswitch 80 6 11 #[37, 45, 52, 59, 66, 73], 37) := by decide +kernel
theorem dX2_readLine_72 : decode cX2_readLine 72 = .ok (.aload_n 0, 1) := by decide +kernel
theorem dX2_readLine_73 : decode cX2_readLine 73 = .ok (.iload_n 1, 1) := by decide +kernel
theorem dX2_readLine_74 : decode cX2_readLine 74 = .ok (.invokevirtual 75, 3) := by decide +kernel
theorem dX2_readLine_77 : decode cX2_readLine 77 = .ok (.goto 43, 3) := by decide +kernel
theorem dX2_readLine_80 : decode cX2_readLine 80 = .ok (.aload_n 0, 1) := by decide +kernel
theorem dX2_readLine_81 : decode cX2_readLine 81 = .ok (.invokevirtual 78, 3) := by decide +kernel
theorem dX2_readLine_84 : decode cX2_readLine 84 = .ok (.goto 36, 3) := by decide +kernel
theorem dX2_readLine_87 : decode cX2_readLine 87 = .ok (.aload_n 0, 1) := by decide +kernel
theorem dX2_readLine_88 : decode cX2_readLine 88 = .ok (.invokevirtual 81, 3) := by decide +kernel
theorem dX2_readLine_91 : decode cX2_readLine 91 = .ok (.goto 29, 3) := by decide +kernel
theorem dX2_readLine_94 : decode cX2_readLine 94 = .ok (.aload_n 0, 1) := by decide +kernel
theorem dX2_readLine_95 : decode cX2_readLine 95 = .ok (.invokevirtual 84, 3) := by decide +kernel
theorem dX2_readLine_98 : decode cX2_readLine 98 = .ok (.goto 22, 3) := by decide +kernel
theorem dX2_readLine_101 : decode cX2_readLine 101 = .ok (.aload_n 0, 1) := by decide +kernel
theorem dX2_readLine_102 : decode cX2_readLine 102 = .ok (.invokevirtual 87, 3) := by decide +kernel
theorem dX2_readLine_105 : decode cX2_readLine 105 = .ok (.goto 15, 3) := by decide +kernel
theorem dX2_readLine_108 : decode cX2_readLine 108 = .ok (.aload_n 0, 1) := by decide +kernel
theorem dX2_readLine_109 : decode cX2_readLine 109 = .ok (.invokevirtual 90, 3) := by decide +kernel
theorem dX2_readLine_112 : decode cX2_readLine 112 = .ok (.goto 8, 3) := by decide +kernel
theorem dX2_readLine_115 : decode cX2_readLine 115 = .ok (.aload_n 0, 1) := by decide +kernel
theorem dX2_readLine_116 : decode cX2_readLine 116 = .ok (.iload_n 2, 1) := by decide +kernel
theorem dX2_readLine_117 : decode cX2_readLine 117 = .ok (.invokevirtual 93, 3) := by decide +kernel
theorem dX2_readLine_120 : decode cX2_readLine 120 = .ok (.return_, 1) := by decide +kernel
theorem dX2_keyword_0 : decode cX2_keyword 0 = .ok (.aload_n 0, 1) := by decide +kernel
theorem dX2_keyword_1 : decode cX2_keyword 1 = .ok (.ldc 97, 2) := by decide +kernel
theorem dX2_keyword_3 : decode cX2_keyword 3 = .ok (.invokevirtual 99, 3) := by decide +kernel
theorem dX2_keyword_6 : decode cX2_keyword 6 = .ok (.ifCond .eq 5, 3) := by decide +kernel
theorem dX2_keyword_9 : decode cX2_keyword 9 = .ok (.iconst 0, 1) := by decide +kernel
theorem dX2_keyword_10 : decode cX2_keyword 10 = .ok (.ireturn, 1) := by decide +kernel
theorem dX2_keyword_11 : decode cX2_keyword 11 = .ok (.aload_n 0, 1) := by decide +kernel
theorem dX2_keyword_12 : decode cX2_keyword 12 = .ok (.ldc 103, 2) := by decide +kernel
theorem dX2_keyword_14 : decode cX2_keyword 14 = .ok (.invokevirtual 99, 3) := by decide +kernel
theorem dX2_keyword_17 : decode cX2_keyword 17 = .ok (.ifCond .eq 5, 3) := by decide +kernel
theorem dX2_keyword_20 : decode cX2_keyword 20 = .ok (.iconst 1, 1) := by decide +kernel
theorem dX2_keyword_21 : decode cX2_keyword 21 = .ok (.ireturn, 1) := by decide +kernel
theorem dX2_keyword_22 : decode cX2_keyword 22 = .ok (.aload_n 0, 1) := by decide +kernel
theorem dX2_keyword_23 : decode cX2_keyword 23 = .ok (.ldc 105, 2) := by decide +kernel
theorem dX2_keyword_25 : decode cX2_keyword 25 = .ok (.invokevirtual 99, 3) := by decide +kernel
theorem dX2_keyword_28 : decode cX2_keyword 28 = .ok (.ifCond .eq 5, 3) := by decide +kernel
theorem dX2_keyword_31 : decode cX2_keyword 31 = .ok (.iconst 2, 1) := by decide +kernel
theorem dX2_keyword_32 : decode cX2_keyword 32 = .ok (.ireturn, 1) := by decide +kernel
theorem dX2_keyword_33 : decode cX2_keyword 33 = .ok (.aload_n 0, 1) := by decide +kernel
theorem dX2_keyword_34 : decode cX2_keyword 34 = .ok (.ldc 107, 2) := by decide +kernel
theorem dX2_keyword_36 : decode cX2_keyword 36 = .ok (.invokevirtual 99, 3) := by decide +kernel
theorem dX2_keyword_39 : decode cX2_keyword 39 = .ok (.ifCond .eq 5, 3) := by decide +kernel
theorem dX2_keyword_42 : decode cX2_keyword 42 = .ok (.iconst 3, 1) := by decide +kernel
theorem dX2_keyword_43 : decode cX2_keyword 43 = .ok (.ireturn, 1) := by decide +kernel
theorem dX2_keyword_44 : decode cX2_keyword 44 = .ok (.aload_n 0, 1) := by decide +kernel
theorem dX2_keyword_45 : decode cX2_keyword 45 = .ok (.ldc 109, 2) := by decide +kernel
theorem dX2_keyword_47 : decode cX2_keyword 47 = .ok (.invokevirtual 99, 3) := by decide +kernel
theorem dX2_keyword_50 : decode cX2_keyword 50 = .ok (.ifCond .eq 5, 3) := by decide +kernel
theorem dX2_keyword_53 : decode cX2_keyword 53 = .ok (.iconst 4, 1) := by decide +kernel
theorem dX2_keyword_54 : decode cX2_keyword 54 = .ok (.ireturn, 1) := by decide +kernel
theorem dX2_keyword_55 : decode cX2_keyword 55 = .ok (.aload_n 0, 1) := by decide +kernel
theorem dX2_keyword_56 : decode cX2_keyword 56 = .ok (.ldc 111, 2) := by decide +kernel
theorem dX2_keyword_58 : decode cX2_keyword 58 = .ok (.invokevirtual 99, 3) := by decide +kernel
theorem dX2_keyword_61 : decode cX2_keyword 61 = .ok (.ifCond .eq 5, 3) := by decide +kernel
theorem dX2_keyword_64 : decode cX2_keyword 64 = .ok (.iconst 5, 1) := by decide +kernel
theorem dX2_keyword_65 : decode cX2_keyword 65 = .ok (.ireturn, 1) := by decide +kernel
theorem dX2_keyword_66 : decode cX2_keyword 66 = .ok (.aload_n 0, 1) := by decide +kernel
theorem dX2_keyword_67 : decode cX2_keyword 67 = .ok (.ldc 113, 2) := by decide +kernel
theorem dX2_keyword_69 : decode cX2_keyword 69 = .ok (.invokevirtual 99, 3) := by decide +kernel
theorem dX2_keyword_72 : decode cX2_keyword 72 = .ok (.ifCond .eq 6, 3) := by decide +kernel
theorem dX2_keyword_75 : decode cX2_keyword 75 = .ok (.bipush 6, 2) := by decide +kernel
theorem dX2_keyword_77 : decode cX2_keyword 77 = .ok (.ireturn, 1) := by decide +kernel
theorem dX2_keyword_78 : decode cX2_keyword 78 = .ok (.aload_n 0, 1) := by decide +kernel
theorem dX2_keyword_79 : decode cX2_keyword 79 = .ok (.ldc 115, 2) := by decide +kernel
theorem dX2_keyword_81 : decode cX2_keyword 81 = .ok (.invokevirtual 99, 3) := by decide +kernel
theorem dX2_keyword_84 : decode cX2_keyword 84 = .ok (.ifCond .eq 6, 3) := by decide +kernel
theorem dX2_keyword_87 : decode cX2_keyword 87 = .ok (.bipush 7, 2) := by decide +kernel
theorem dX2_keyword_89 : decode cX2_keyword 89 = .ok (.ireturn, 1) := by decide +kernel
theorem dX2_keyword_90 : decode cX2_keyword 90 = .ok (.aload_n 0, 1) := by decide +kernel
theorem dX2_keyword_91 : decode cX2_keyword 91 = .ok (.ldc 117, 2) := by decide +kernel
theorem dX2_keyword_93 : decode cX2_keyword 93 = .ok (.invokevirtual 99, 3) := by decide +kernel
theorem dX2_keyword_96 : decode cX2_keyword 96 = .ok (.ifCond .eq 6, 3) := by decide +kernel
theorem dX2_keyword_99 : decode cX2_keyword 99 = .ok (.bipush 8, 2) := by decide +kernel
theorem dX2_keyword_101 : decode cX2_keyword 101 = .ok (.ireturn, 1) := by decide +kernel
theorem dX2_keyword_102 : decode cX2_keyword 102 = .ok (.aload_n 0, 1) := by decide +kernel
theorem dX2_keyword_103 : decode cX2_keyword 103 = .ok (.ldc 119, 2) := by decide +kernel
theorem dX2_keyword_105 : decode cX2_keyword 105 = .ok (.invokevirtual 99, 3) := by decide +kernel
theorem dX2_keyword_108 : decode cX2_keyword 108 = .ok (.ifCond .eq 6, 3) := by decide +kernel
theorem dX2_keyword_111 : decode cX2_keyword 111 = .ok (.bipush 9, 2) := by decide +kernel
theorem dX2_keyword_113 : decode cX2_keyword 113 = .ok (.ireturn, 1) := by decide +kernel
theorem dX2_keyword_114 : decode cX2_keyword 114 = .ok (.aload_n 0, 1) := by decide +kernel
theorem dX2_keyword_115 : decode cX2_keyword 115 = .ok (.ldc 121, 2) := by decide +kernel
theorem dX2_keyword_117 : decode cX2_keyword 117 = .ok (.invokevirtual 99, 3) := by decide +kernel
theorem dX2_keyword_120 : decode cX2_keyword 120 = .ok (.ifCond .eq 6, 3) := by decide +kernel
theorem dX2_keyword_123 : decode cX2_keyword 123 = .ok (.bipush 10, 2) := by decide +kernel
theorem dX2_keyword_125 : decode cX2_keyword 125 = .ok (.ireturn, 1) := by decide +kernel
theorem dX2_keyword_126 : decode cX2_keyword 126 = .ok (.aload_n 0, 1) := by decide +kernel
theorem dX2_keyword_127 : decode cX2_keyword 127 = .ok (.ldc 123, 2) := by decide +kernel
theorem dX2_keyword_129 : decode cX2_keyword 129 = .ok (.invokevirtual 99, 3) := by decide +kernel
theorem dX2_keyword_132 : decode cX2_keyword 132 = .ok (.ifCond .eq 8, 3) := by decide +kernel
theorem dX2_keyword_135 : decode cX2_keyword 135 = .ok (.bipush 11, 2) := by decide +kernel
theorem dX2_keyword_137 : decode cX2_keyword 137 = .ok (.goto 4, 3) := by decide +kernel
theorem dX2_keyword_140 : decode cX2_keyword 140 = .ok (.iconst (-1), 1) := by decide +kernel
theorem dX2_keyword_141 : decode cX2_keyword 141 = .ok (.ireturn, 1) := by decide +kernel
theorem dX2_readCurve_0 : decode cX2_readCurve 0 = .ok (.iload_n 1, 1) := by decide +kernel
theorem dX2_readCurve_1 : decode cX2_readCurve 1 = .ok (.ifCond .ne 12, 3) := by decide +kernel
theorem dX2_readCurve_4 : decode cX2_readCurve 4 = .ok (.aload_n 0, 1) := by decide +kernel
theorem dX2_readCurve_5 : decode cX2_readCurve 5 = .ok (.iconst 3, 1) := by decide +kernel
theorem dX2_readCurve_6 : decode cX2_readCurve 6 = .ok (.aload_n 0, 1) := by decide +kernel
theorem dX2_readCurve_7 : decode cX2_readCurve 7 = .ok (.getfield 31, 3) := by decide +kernel
theorem dX2_readCurve_10 : decode cX2_readCurve 10 = .ok (.invokevirtual 71, 3) := by decide +kernel
theorem dX2_readCurve_13 : decode cX2_readCurve 13 = .ok (.iconst (-1), 1) := by decide +kernel
theorem dX2_readCurve_14 : decode cX2_readCurve 14 = .ok (.istore_n 2, 1) := by decide +kernel
theorem dX2_readCurve_15 : decode cX2_readCurve 15 = .ok (.iconst 0, 1) := by decide +kernel
theorem dX2_readCurve_16 : decode cX2_readCurve 16 = .ok (.istore_n 3, 1) := by decide +kernel
theorem dX2_readCurve_17 : decode cX2_readCurve 17 = .ok (.iload_n 3, 1) := by decide +kernel
theorem dX2_readCurve_18 : decode cX2_readCurve 18 = .ok (.bipush 16, 2) := by decide +kernel
theorem dX2_readCurve_20 : decode cX2_readCurve 20 = .ok (.if_icmp .gt 109, 3) := by decide +kernel
theorem dX2_readCurve_23 : decode cX2_readCurve 23 = .ok (.aload_n 0, 1) := by decide +kernel
theorem dX2_readCurve_24 : decode cX2_readCurve 24 = .ok (.getfield 18, 3) := by decide +kernel
theorem dX2_readCurve_27 : decode cX2_readCurve 27 = .ok (.ifCond .ne 102, 3) := by decide +kernel
theorem dX2_readCurve_30 : decode cX2_readCurve 30 = .ok (.iload_n 3, 1) := by decide +kernel
theorem dX2_readCurve_31 : decode cX2_readCurve 31 = .ok (.iconst 2, 1) := by decide +kernel
theorem dX2_readCurve_32 : decode cX2_readCurve 32 = .ok (.if_icmp .lt 15, 3) := by decide +kernel
theorem dX2_readCurve_35 : decode cX2_readCurve 35 = .ok (.aload_n 0, 1) := by decide +kernel
theorem dX2_readCurve_36 : decode cX2_readCurve 36 = .ok (.invokevirtual 61, 3) := by decide +kernel
theorem dX2_readCurve_39 : decode cX2_readCurve 39 = .ok (.bipush 44, 2) := by decide +kernel
theorem dX2_readCurve_41 : decode cX2_readCurve 41 = .ok (.if_icmp .eq 6, 3) := by decide +kernel
theorem dX2_readCurve_44 : decode cX2_readCurve 44 = .ok (.goto 85, 3) := by decide +kernel
theorem dX2_readCurve_47 : decode cX2_readCurve 47 = .ok (.iload_n 3, 1) := by decide +kernel
theorem dX2_readCurve_48 : decode cX2_readCurve 48 = .ok (.bipush 16, 2) := by decide +kernel
theorem dX2_readCurve_50 : decode cX2_readCurve 50 = .ok (.if_icmp .ne 15, 3) := by decide +kernel
theorem dX2_readCurve_53 : decode cX2_readCurve 53 = .ok (.aload_n 0, 1) := by decide +kernel
theorem dX2_readCurve_54 : decode cX2_readCurve 54 = .ok (.iconst 3, 1) := by decide +kernel
theorem dX2_readCurve_55 : decode cX2_readCurve 55 = .ok (.aload_n 0, 1) := by decide +kernel
theorem dX2_readCurve_56 : decode cX2_readCurve 56 = .ok (.getfield 28, 3) := by decide +kernel
theorem dX2_readCurve_59 : decode cX2_readCurve 59 = .ok (.invokevirtual 71, 3) := by decide +kernel
theorem dX2_readCurve_62 : decode cX2_readCurve 62 = .ok (.goto 67, 3) := by decide +kernel
theorem dX2_readCurve_65 : decode cX2_readCurve 65 = .ok (.iload_n 3, 1) := by decide +kernel
theorem dX2_readCurve_66 : decode cX2_readCurve 66 = .ok (.ifCond .le 9, 3) := by decide +kernel
theorem dX2_readCurve_69 : decode cX2_readCurve 69 = .ok (.aload_n 0, 1) := by decide +kernel
theorem dX2_readCurve_70 : decode cX2_readCurve 70 = .ok (.bipush 44, 2) := by decide +kernel
theorem dX2_readCurve_72 : decode cX2_readCurve 72 = .ok (.invokevirtual 125, 3) := by decide +kernel
theorem dX2_readCurve_75 : decode cX2_readCurve 75 = .ok (.aload_n 0, 1) := by decide +kernel
theorem dX2_readCurve_76 : decode cX2_readCurve 76 = .ok (.iload_n 2, 1) := by decide +kernel
theorem dX2_readCurve_77 : decode cX2_readCurve 77 = .ok (.iconst 1, 1) := by decide +kernel
theorem dX2_readCurve_78 : decode cX2_readCurve 78 = .ok (.iadd, 1) := by decide +kernel
theorem dX2_readCurve_79 : decode cX2_readCurve 79 = .ok (.sipush 999, 3) := by decide +kernel
theorem dX2_readCurve_82 : decode cX2_readCurve 82 = .ok (.invokevirtual 128, 3) := by decide +kernel
theorem dX2_readCurve_85 : decode cX2_readCurve 85 = .ok (.istore_n 2, 1) := by decide +kernel
theorem dX2_readCurve_86 : decode cX2_readCurve 86 = .ok (.aload_n 0, 1) := by decide +kernel
theorem dX2_readCurve_87 : decode cX2_readCurve 87 = .ok (.getfield 12, 3) := by decide +kernel
theorem dX2_readCurve_90 : decode cX2_readCurve 90 = .ok (.getfield 132, 3) := by decide +kernel
theorem dX2_readCurve_93 : decode cX2_readCurve 93 = .ok (.iload_n 3, 1) := by decide +kernel
theorem dX2_readCurve_94 : decode cX2_readCurve 94 = .ok (.iload_n 2, 1) := by decide +kernel
theorem dX2_readCurve_95 : decode cX2_readCurve 95 = .ok (.iastore, 1) := by decide +kernel
theorem dX2_readCurve_96 : decode cX2_readCurve 96 = .ok (.aload_n 0, 1) := by decide +kernel
theorem dX2_readCurve_97 : decode cX2_readCurve 97 = .ok (.getfield 12, 3) := by decide +kernel
theorem dX2_readCurve_100 : decode cX2_readCurve 100 = .ok (.getfield 135, 3) := by decide +kernel
theorem dX2_readCurve_103 : decode cX2_readCurve 103 = .ok (.iload_n 3, 1) := by decide +kernel
theorem dX2_readCurve_104 : decode cX2_readCurve 104 = .ok (.aload_n 0, 1) := by decide +kernel
theorem dX2_readCurve_105 : decode cX2_readCurve 105 = .ok (.iconst 0, 1) := by decide +kernel
theorem dX2_readCurve_106 : decode cX2_readCurve 106 = .ok (.sipush 9999, 3) := by decide +kernel
theorem dX2_readCurve_109 : decode cX2_readCurve 109 = .ok (.invokevirtual 128, 3) := by decide +kernel
theorem dX2_readCurve_112 : decode cX2_readCurve 112 = .ok (.iastore, 1) := by decide +kernel
theorem dX2_readCurve_113 : decode cX2_readCurve 113 = .ok (.aload_n 0, 1) := by decide +kernel
theorem dX2_readCurve_114 : decode cX2_readCurve 114 = .ok (.getfield 12, 3) := by decide +kernel
theorem dX2_readCurve_117 : decode cX2_readCurve 117 = .ok (.iload_n 3, 1) := by decide +kernel
theorem dX2_readCurve_118 : decode cX2_readCurve 118 = .ok (.iconst 1, 1) := by decide +kernel
theorem dX2_readCurve_119 : decode cX2_readCurve 119 = .ok (.iadd, 1) := by decide +kernel
theorem dX2_readCurve_120 : decode cX2_readCurve 120 = .ok (.putfield 138, 3) := by decide +kernel
theorem dX2_readCurve_123 : decode cX2_readCurve 123 = .ok (.iinc 3 1, 3) := by decide +kernel
theorem dX2_readCurve_126 : decode cX2_readCurve 126 = .ok (.goto (-109), 3) := by decide +kernel
theorem dX2_readCurve_129 : decode cX2_readCurve 129 = .ok (.aload_n 0, 1) := by decide +kernel
theorem dX2_readCurve_130 : decode cX2_readCurve 130 = .ok (.bipush 59, 2) := by decide +kernel
theorem dX2_readCurve_132 : decode cX2_readCurve 132 = .ok (.invokevirtual 125, 3) := by decide +kernel
theorem dX2_readCurve_135 : decode cX2_readCurve 135 = .ok (.return_, 1) := by decide +kernel
theorem dX2_readSample_0 : decode cX2_readSample 0 = .ok (.aload_n 0, 1) := by decide +kernel
theorem dX2_readSample_1 : decode cX2_readSample 1 = .ok (.getfield 12, 3) := by decide +kernel
theorem dX2_readSample_4 : decode cX2_readSample 4 = .ok (.getfield 141, 3) := by decide +kernel
theorem dX2_readSample_7 : decode cX2_readSample 7 = .ok (.bipush 12, 2) := by decide +kernel
theorem dX2_readSample_9 : decode cX2_readSample 9 = .ok (.if_icmp .lt 13, 3) := by decide +kernel
theorem dX2_readSample_12 : decode cX2_readSample 12 = .ok (.aload_n 0, 1) := by decide +kernel
theorem dX2_readSample_13 : decode cX2_readSample 13 = .ok (.iconst 3, 1) := by decide +kernel
theorem dX2_readSample_14 : decode cX2_readSample 14 = .ok (.aload_n 0, 1) := by decide +kernel
theorem dX2_readSample_15 : decode cX2_readSample 15 = .ok (.getfield 31, 3) := by decide +kernel
theorem dX2_readSample_18 : decode cX2_readSample 18 = .ok (.invokevirtual 71, 3) := by decide +kernel
theorem dX2_readSample_21 : decode cX2_readSample 21 = .ok (.return_, 1) := by decide +kernel
theorem dX2_readSample_22 : decode cX2_readSample 22 = .ok (.aload_n 0, 1) := by decide +kernel
theorem dX2_readSample_23 : decode cX2_readSample 23 = .ok (.invokevirtual 144, 3) := by decide +kernel
theorem dX2_readSample_26 : decode cX2_readSample 26 = .ok (.istore_n 1, 1) := by decide +kernel
theorem dX2_readSample_27 : decode cX2_readSample 27 = .ok (.aload_n 0, 1) := by decide +kernel
theorem dX2_readSample_28 : decode cX2_readSample 28 = .ok (.iconst 0, 1) := by decide +kernel
theorem dX2_readSample_29 : decode cX2_readSample 29 = .ok (.sipush 9999, 3) := by decide +kernel
theorem dX2_readSample_32 : decode cX2_readSample 32 = .ok (.invokevirtual 128, 3) := by decide +kernel
theorem dX2_readSample_35 : decode cX2_readSample 35 = .ok (.istore_n 2, 1) := by decide +kernel
theorem dX2_readSample_36 : decode cX2_readSample 36 = .ok (.aload_n 0, 1) := by decide +kernel
theorem dX2_readSample_37 : decode cX2_readSample 37 = .ok (.iconst 0, 1) := by decide +kernel
theorem dX2_readSample_38 : decode cX2_readSample 38 = .ok (.sipush 999, 3) := by decide +kernel
theorem dX2_readSample_41 : decode cX2_readSample 41 = .ok (.invokevirtual 128, 3) := by decide +kernel
theorem dX2_readSample_44 : decode cX2_readSample 44 = .ok (.istore_n 3, 1) := by decide +kernel
theorem dX2_readSample_45 : decode cX2_readSample 45 = .ok (.aload_n 0, 1) := by decide +kernel
theorem dX2_readSample_46 : decode cX2_readSample 46 = .ok (.bipush 59, 2) := by decide +kernel
theorem dX2_readSample_48 : decode cX2_readSample 48 = .ok (.invokevirtual 125, 3) := by decide +kernel
theorem dX2_readSample_51 : decode cX2_readSample 51 = .ok (.aload_n 0, 1) := by decide +kernel
theorem dX2_readSample_52 : decode cX2_readSample 52 = .ok (.getfield 12, 3) := by decide +kernel
theorem dX2_readSample_55 : decode cX2_readSample 55 = .ok (.getfield 147, 3) := by decide +kernel
theorem dX2_readSample_58 : decode cX2_readSample 58 = .ok (.aload_n 0, 1) := by decide +kernel
theorem dX2_readSample_59 : decode cX2_readSample 59 = .ok (.getfield 12, 3) := by decide +kernel
theorem dX2_readSample_62 : decode cX2_readSample 62 = .ok (.getfield 141, 3) := by decide +kernel
theorem dX2_readSample_65 : decode cX2_readSample 65 = .ok (.aaload, 1) := by decide +kernel
theorem dX2_readSample_66 : decode cX2_readSample 66 = .ok (.astore 4, 2) := by decide +kernel
theorem dX2_readSample_68 : decode cX2_readSample 68 = .ok (.aload 4, 2) := by decide +kernel
theorem dX2_readSample_70 : decode cX2_readSample 70 = .ok (.iconst 0, 1) := by decide +kernel
theorem dX2_readSample_71 : decode cX2_readSample 71 = .ok (.putfield 150, 3) := by decide +kernel
theorem dX2_readSample_74 : decode cX2_readSample 74 = .ok (.aload 4, 2) := by decide +kernel
theorem dX2_readSample_76 : decode cX2_readSample 76 = .ok (.iload_n 2, 1) := by decide +kernel
theorem dX2_readSample_77 : decode cX2_readSample 77 = .ok (.putfield 155, 3) := by decide +kernel
theorem dX2_readSample_80 : decode cX2_readSample 80 = .ok (.aload 4, 2) := by decide +kernel
theorem dX2_readSample_82 : decode cX2_readSample 82 = .ok (.iload_n 3, 1) := by decide +kernel
theorem dX2_readSample_83 : decode cX2_readSample 83 = .ok (.putfield 158, 3) := by decide +kernel
theorem dX2_readSample_86 : decode cX2_readSample 86 = .ok (.aload_n 0, 1) := by decide +kernel
theorem dX2_readSample_87 : decode cX2_readSample 87 = .ok (.getfield 44, 3) := by decide +kernel
theorem dX2_readSample_90 : decode cX2_readSample 90 = .ok (.aload_n 0, 1) := by decide +kernel
theorem dX2_readSample_91 : decode cX2_readSample 91 = .ok (.getfield 12, 3) := by decide +kernel
theorem dX2_readSample_94 : decode cX2_readSample 94 = .ok (.getfield 141, 3) := by decide +kernel
theorem dX2_readSample_97 : decode cX2_readSample 97 = .ok (.iload_n 1, 1) := by decide +kernel
theorem dX2_readSample_98 : decode cX2_readSample 98 = .ok (.iastore, 1) := by decide +kernel
theorem dX2_readSample_99 : decode cX2_readSample 99 = .ok (.aload_n 0, 1) := by decide +kernel
theorem dX2_readSample_100 : decode cX2_readSample 100 = .ok (.getfield 12, 3) := by decide +kernel
theorem dX2_readSample_103 : decode cX2_readSample 103 = .ok (.dup, 1) := by decide +kernel
theorem dX2_readSample_104 : decode cX2_readSample 104 = .ok (.getfield 141, 3) := by decide +kernel
theorem dX2_readSample_107 : decode cX2_readSample 107 = .ok (.iconst 1, 1) := by decide +kernel
theorem dX2_readSample_108 : decode cX2_readSample 108 = .ok (.iadd, 1) := by decide +kernel
theorem dX2_readSample_109 : decode cX2_readSample 109 = .ok (.putfield 141, 3) := by decide +kernel
theorem dX2_readSample_112 : decode cX2_readSample 112 = .ok (.return_, 1) := by decide +kernel
theorem dX2_readRings_0 : decode cX2_readRings 0 = .ok (.aload_n 0, 1) := by decide +kernel
theorem dX2_readRings_1 : decode cX2_readRings 1 = .ok (.getfield 12, 3) := by decide +kernel
theorem dX2_readRings_4 : decode cX2_readRings 4 = .ok (.getfield 141, 3) := by decide +kernel
theorem dX2_readRings_7 : decode cX2_readRings 7 = .ok (.bipush 12, 2) := by decide +kernel
theorem dX2_readRings_9 : decode cX2_readRings 9 = .ok (.if_icmp .lt 13, 3) := by decide +kernel
theorem dX2_readRings_12 : decode cX2_readRings 12 = .ok (.aload_n 0, 1) := by decide +kernel
theorem dX2_readRings_13 : decode cX2_readRings 13 = .ok (.iconst 3, 1) := by decide +kernel
theorem dX2_readRings_14 : decode cX2_readRings 14 = .ok (.aload_n 0, 1) := by decide +kernel
theorem dX2_readRings_15 : decode cX2_readRings 15 = .ok (.getfield 31, 3) := by decide +kernel
theorem dX2_readRings_18 : decode cX2_readRings 18 = .ok (.invokevirtual 71, 3) := by decide +kernel
theorem dX2_readRings_21 : decode cX2_readRings 21 = .ok (.return_, 1) := by decide +kernel
theorem dX2_readRings_22 : decode cX2_readRings 22 = .ok (.aload_n 0, 1) := by decide +kernel
theorem dX2_readRings_23 : decode cX2_readRings 23 = .ok (.getfield 12, 3) := by decide +kernel
theorem dX2_readRings_26 : decode cX2_readRings 26 = .ok (.getfield 147, 3) := by decide +kernel
theorem dX2_readRings_29 : decode cX2_readRings 29 = .ok (.aload_n 0, 1) := by decide +kernel
theorem dX2_readRings_30 : decode cX2_readRings 30 = .ok (.getfield 12, 3) := by decide +kernel
theorem dX2_readRings_33 : decode cX2_readRings 33 = .ok (.getfield 141, 3) := by decide +kernel
theorem dX2_readRings_36 : decode cX2_readRings 36 = .ok (.aaload, 1) := by decide +kernel
theorem dX2_readRings_37 : decode cX2_readRings 37 = .ok (.astore_n 1, 1) := by decide +kernel
theorem dX2_readRings_38 : decode cX2_readRings 38 = .ok (.aload_n 0, 1) := by decide +kernel
theorem dX2_readRings_39 : decode cX2_readRings 39 = .ok (.invokevirtual 144, 3) := by decide +kernel
theorem dX2_readRings_42 : decode cX2_readRings 42 = .ok (.istore_n 2, 1) := by decide +kernel
theorem dX2_readRings_43 : decode cX2_readRings 43 = .ok (.aload_n 1, 1) := by decide +kernel
theorem dX2_readRings_44 : decode cX2_readRings 44 = .ok (.iconst 1, 1) := by decide +kernel
theorem dX2_readRings_45 : decode cX2_readRings 45 = .ok (.putfield 150, 3) := by decide +kernel
theorem dX2_readRings_48 : decode cX2_readRings 48 = .ok (.aload_n 1, 1) := by decide +kernel
theorem dX2_readRings_49 : decode cX2_readRings 49 = .ok (.aload_n 0, 1) := by decide +kernel
theorem dX2_readRings_50 : decode cX2_readRings 50 = .ok (.iconst 0, 1) := by decide +kernel
theorem dX2_readRings_51 : decode cX2_readRings 51 = .ok (.sipush 999, 3) := by decide +kernel
theorem dX2_readRings_54 : decode cX2_readRings 54 = .ok (.invokevirtual 128, 3) := by decide +kernel
theorem dX2_readRings_57 : decode cX2_readRings 57 = .ok (.putfield 155, 3) := by decide +kernel
theorem dX2_readRings_60 : decode cX2_readRings 60 = .ok (.iconst (-1), 1) := by decide +kernel
theorem dX2_readRings_61 : decode cX2_readRings 61 = .ok (.istore_n 3, 1) := by decide +kernel
theorem dX2_readRings_62 : decode cX2_readRings 62 = .ok (.iconst 0, 1) := by decide +kernel
theorem dX2_readRings_63 : decode cX2_readRings 63 = .ok (.istore 4, 2) := by decide +kernel
theorem dX2_readRings_65 : decode cX2_readRings 65 = .ok (.iload 4, 2) := by decide +kernel
theorem dX2_readRings_67 : decode cX2_readRings 67 = .ok (.bipush 6, 2) := by decide +kernel
theorem dX2_readRings_69 : decode cX2_readRings 69 = .ok (.if_icmp .gt 106, 3) := by decide +kernel
theorem dX2_readRings_72 : decode cX2_readRings 72 = .ok (.aload_n 0, 1) := by decide +kernel
theorem dX2_readRings_73 : decode cX2_readRings 73 = .ok (.getfield 18, 3) := by decide +kernel
theorem dX2_readRings_76 : decode cX2_readRings 76 = .ok (.ifCond .ne 99, 3) := by decide +kernel
theorem dX2_readRings_79 : decode cX2_readRings 79 = .ok (.iload 4, 2) := by decide +kernel
theorem dX2_readRings_81 : decode cX2_readRings 81 = .ok (.iconst 1, 1) := by decide +kernel
theorem dX2_readRings_82 : decode cX2_readRings 82 = .ok (.if_icmp .lt 15, 3) := by decide +kernel
theorem dX2_readRings_85 : decode cX2_readRings 85 = .ok (.aload_n 0, 1) := by decide +kernel
theorem dX2_readRings_86 : decode cX2_readRings 86 = .ok (.invokevirtual 61, 3) := by decide +kernel
theorem dX2_readRings_89 : decode cX2_readRings 89 = .ok (.bipush 44, 2) := by decide +kernel
theorem dX2_readRings_91 : decode cX2_readRings 91 = .ok (.if_icmp .eq 6, 3) := by decide +kernel
theorem dX2_readRings_94 : decode cX2_readRings 94 = .ok (.goto 81, 3) := by decide +kernel
theorem dX2_readRings_97 : decode cX2_readRings 97 = .ok (.iload 4, 2) := by decide +kernel
theorem dX2_readRings_99 : decode cX2_readRings 99 = .ok (.bipush 6, 2) := by decide +kernel
theorem dX2_readRings_101 : decode cX2_readRings 101 = .ok (.if_icmp .ne 15, 3) := by decide +kernel
theorem dX2_readRings_104 : decode cX2_readRings 104 = .ok (.aload_n 0, 1) := by decide +kernel
theorem dX2_readRings_105 : decode cX2_readRings 105 = .ok (.iconst 3, 1) := by decide +kernel
theorem dX2_readRings_106 : decode cX2_readRings 106 = .ok (.aload_n 0, 1) := by decide +kernel
theorem dX2_readRings_107 : decode cX2_readRings 107 = .ok (.getfield 28, 3) := by decide +kernel
theorem dX2_readRings_110 : decode cX2_readRings 110 = .ok (.invokevirtual 71, 3) := by decide +kernel
theorem dX2_readRings_113 : decode cX2_readRings 113 = .ok (.goto 62, 3) := by decide +kernel
theorem dX2_readRings_116 : decode cX2_readRings 116 = .ok (.iload 4, 2) := by decide +kernel
theorem dX2_readRings_118 : decode cX2_readRings 118 = .ok (.ifCond .le 9, 3) := by decide +kernel
theorem dX2_readRings_121 : decode cX2_readRings 121 = .ok (.aload_n 0, 1) := by decide +kernel
theorem dX2_readRings_122 : decode cX2_readRings 122 = .ok (.bipush 44, 2) := by decide +kernel
theorem dX2_readRings_124 : decode cX2_readRings 124 = .ok (.invokevirtual 125, 3) := by decide +kernel
theorem dX2_readRings_127 : decode cX2_readRings 127 = .ok (.aload_n 0, 1) := by decide +kernel
theorem dX2_readRings_128 : decode cX2_readRings 128 = .ok (.iload_n 3, 1) := by decide +kernel
theorem dX2_readRings_129 : decode cX2_readRings 129 = .ok (.iconst 1, 1) := by decide +kernel
theorem dX2_readRings_130 : decode cX2_readRings 130 = .ok (.iadd, 1) := by decide +kernel
theorem dX2_readRings_131 : decode cX2_readRings 131 = .ok (.sipush 300, 3) := by decide +kernel
theorem dX2_readRings_134 : decode cX2_readRings 134 = .ok (.invokevirtual 128, 3) := by decide +kernel
theorem dX2_readRings_137 : decode cX2_readRings 137 = .ok (.istore_n 3, 1) := by decide +kernel
theorem dX2_readRings_138 : decode cX2_readRings 138 = .ok (.aload_n 1, 1) := by decide +kernel
theorem dX2_readRings_139 : decode cX2_readRings 139 = .ok (.getfield 161, 3) := by decide +kernel
theorem dX2_readRings_142 : decode cX2_readRings 142 = .ok (.iload 4, 2) := by decide +kernel
theorem dX2_readRings_144 : decode cX2_readRings 144 = .ok (.iload_n 3, 1) := by decide +kernel
theorem dX2_readRings_145 : decode cX2_readRings 145 = .ok (.iastore, 1) := by decide +kernel
theorem dX2_readRings_146 : decode cX2_readRings 146 = .ok (.aload_n 1, 1) := by decide +kernel
theorem dX2_readRings_147 : decode cX2_readRings 147 = .ok (.getfield 163, 3) := by decide +kernel
theorem dX2_readRings_150 : decode cX2_readRings 150 = .ok (.iload 4, 2) := by decide +kernel
theorem dX2_readRings_152 : decode cX2_readRings 152 = .ok (.aload_n 0, 1) := by decide +kernel
theorem dX2_readRings_153 : decode cX2_readRings 153 = .ok (.iconst 0, 1) := by decide +kernel
theorem dX2_readRings_154 : decode cX2_readRings 154 = .ok (.sipush 9999, 3) := by decide +kernel
theorem dX2_readRings_157 : decode cX2_readRings 157 = .ok (.invokevirtual 128, 3) := by decide +kernel
theorem dX2_readRings_160 : decode cX2_readRings 160 = .ok (.iastore, 1) := by decide +kernel
theorem dX2_readRings_161 : decode cX2_readRings 161 = .ok (.aload_n 1, 1) := by decide +kernel
theorem dX2_readRings_162 : decode cX2_readRings 162 = .ok (.iload 4, 2) := by decide +kernel
theorem dX2_readRings_164 : decode cX2_readRings 164 = .ok (.iconst 1, 1) := by decide +kernel
theorem dX2_readRings_165 : decode cX2_readRings 165 = .ok (.iadd, 1) := by decide +kernel
theorem dX2_readRings_166 : decode cX2_readRings 166 = .ok (.putfield 158, 3) := by decide +kernel
theorem dX2_readRings_169 : decode cX2_readRings 169 = .ok (.iinc 4 1, 3) := by decide +kernel
theorem dX2_readRings_172 : decode cX2_readRings 172 = .ok (.goto (-107), 3) := by decide +kernel
theorem dX2_readRings_175 : decode cX2_readRings 175 = .ok (.aload_n 0, 1) := by decide +kernel
theorem dX2_readRings_176 : decode cX2_readRings 176 = .ok (.bipush 59, 2) := by decide +kernel
theorem dX2_readRings_178 : decode cX2_readRings 178 = .ok (.invokevirtual 125, 3) := by decide +kernel
theorem dX2_readRings_181 : decode cX2_readRings 181 = .ok (.aload_n 0, 1) := by decide +kernel
theorem dX2_readRings_182 : decode cX2_readRings 182 = .ok (.getfield 44, 3) := by decide +kernel
theorem dX2_readRings_185 : decode cX2_readRings 185 = .ok (.aload_n 0, 1) := by decide +kernel
theorem dX2_readRings_186 : decode cX2_readRings 186 = .ok (.getfield 12, 3) := by decide +kernel
theorem dX2_readRings_189 : decode cX2_readRings 189 = .ok (.getfield 141, 3) := by decide +kernel
theorem dX2_readRings_192 : decode cX2_readRings 192 = .ok (.iload_n 2, 1) := by decide +kernel
theorem dX2_readRings_193 : decode cX2_readRings 193 = .ok (.iastore, 1) := by decide +kernel
theorem dX2_readRings_194 : decode cX2_readRings 194 = .ok (.aload_n 0, 1) := by decide +kernel
theorem dX2_readRings_195 : decode cX2_readRings 195 = .ok (.getfield 12, 3) := by decide +kernel
theorem dX2_readRings_198 : decode cX2_readRings 198 = .ok (.dup, 1) := by decide +kernel
theorem dX2_readRings_199 : decode cX2_readRings 199 = .ok (.getfield 141, 3) := by decide +kernel
theorem dX2_readRings_202 : decode cX2_readRings 202 = .ok (.iconst 1, 1) := by decide +kernel
theorem dX2_readRings_203 : decode cX2_readRings 203 = .ok (.iadd, 1) := by decide +kernel
theorem dX2_readRings_204 : decode cX2_readRings 204 = .ok (.putfield 141, 3) := by decide +kernel
theorem dX2_readRings_207 : decode cX2_readRings 207 = .ok (.return_, 1) := by decide +kernel
theorem dX2_readPhase_0 : decode cX2_readPhase 0 = .ok (.aload_n 0, 1) := by decide +kernel
theorem dX2_readPhase_1 : decode cX2_readPhase 1 = .ok (.getfield 12, 3) := by decide +kernel
theorem dX2_readPhase_4 : decode cX2_readPhase 4 = .ok (.getfield 166, 3) := by decide +kernel
theorem dX2_readPhase_7 : decode cX2_readPhase 7 = .ok (.iconst 4, 1) := by decide +kernel
theorem dX2_readPhase_8 : decode cX2_readPhase 8 = .ok (.if_icmp .lt 13, 3) := by decide +kernel
theorem dX2_readPhase_11 : decode cX2_readPhase 11 = .ok (.aload_n 0, 1) := by decide +kernel
theorem dX2_readPhase_12 : decode cX2_readPhase 12 = .ok (.iconst 3, 1) := by decide +kernel
theorem dX2_readPhase_13 : decode cX2_readPhase 13 = .ok (.aload_n 0, 1) := by decide +kernel
theorem dX2_readPhase_14 : decode cX2_readPhase 14 = .ok (.getfield 31, 3) := by decide +kernel
theorem dX2_readPhase_17 : decode cX2_readPhase 17 = .ok (.invokevirtual 71, 3) := by decide +kernel
theorem dX2_readPhase_20 : decode cX2_readPhase 20 = .ok (.return_, 1) := by decide +kernel
theorem dX2_readPhase_21 : decode cX2_readPhase 21 = .ok (.aload_n 0, 1) := by decide +kernel
theorem dX2_readPhase_22 : decode cX2_readPhase 22 = .ok (.getfield 12, 3) := by decide +kernel
theorem dX2_readPhase_25 : decode cX2_readPhase 25 = .ok (.getfield 169, 3) := by decide +kernel
theorem dX2_readPhase_28 : decode cX2_readPhase 28 = .ok (.aload_n 0, 1) := by decide +kernel
theorem dX2_readPhase_29 : decode cX2_readPhase 29 = .ok (.getfield 12, 3) := by decide +kernel
theorem dX2_readPhase_32 : decode cX2_readPhase 32 = .ok (.getfield 166, 3) := by decide +kernel
theorem dX2_readPhase_35 : decode cX2_readPhase 35 = .ok (.aaload, 1) := by decide +kernel
theorem dX2_readPhase_36 : decode cX2_readPhase 36 = .ok (.astore_n 1, 1) := by decide +kernel
theorem dX2_readPhase_37 : decode cX2_readPhase 37 = .ok (.aload_n 0, 1) := by decide +kernel
theorem dX2_readPhase_38 : decode cX2_readPhase 38 = .ok (.invokevirtual 144, 3) := by decide +kernel
theorem dX2_readPhase_41 : decode cX2_readPhase 41 = .ok (.istore_n 2, 1) := by decide +kernel
theorem dX2_readPhase_42 : decode cX2_readPhase 42 = .ok (.aload_n 1, 1) := by decide +kernel
theorem dX2_readPhase_43 : decode cX2_readPhase 43 = .ok (.iconst 0, 1) := by decide +kernel
theorem dX2_readPhase_44 : decode cX2_readPhase 44 = .ok (.putfield 172, 3) := by decide +kernel
theorem dX2_readPhase_47 : decode cX2_readPhase 47 = .ok (.iconst 0, 1) := by decide +kernel
theorem dX2_readPhase_48 : decode cX2_readPhase 48 = .ok (.istore_n 3, 1) := by decide +kernel
theorem dX2_readPhase_49 : decode cX2_readPhase 49 = .ok (.iload_n 3, 1) := by decide +kernel
theorem dX2_readPhase_50 : decode cX2_readPhase 50 = .ok (.bipush 6, 2) := by decide +kernel
theorem dX2_readPhase_52 : decode cX2_readPhase 52 = .ok (.if_icmp .gt 71, 3) := by decide +kernel
theorem dX2_readPhase_55 : decode cX2_readPhase 55 = .ok (.aload_n 0, 1) := by decide +kernel
theorem dX2_readPhase_56 : decode cX2_readPhase 56 = .ok (.getfield 18, 3) := by decide +kernel
theorem dX2_readPhase_59 : decode cX2_readPhase 59 = .ok (.ifCond .ne 64, 3) := by decide +kernel
theorem dX2_readPhase_62 : decode cX2_readPhase 62 = .ok (.iload_n 3, 1) := by decide +kernel
theorem dX2_readPhase_63 : decode cX2_readPhase 63 = .ok (.iconst 1, 1) := by decide +kernel
theorem dX2_readPhase_64 : decode cX2_readPhase 64 = .ok (.if_icmp .lt 16, 3) := by decide +kernel
theorem dX2_readPhase_67 : decode cX2_readPhase 67 = .ok (.aload_n 0, 1) := by decide +kernel
theorem dX2_readPhase_68 : decode cX2_readPhase 68 = .ok (.invokevirtual 61, 3) := by decide +kernel
theorem dX2_readPhase_71 : decode cX2_readPhase 71 = .ok (.invokestatic 177, 3) := by decide +kernel
theorem dX2_readPhase_74 : decode cX2_readPhase 74 = .ok (.ifCond .ne 6, 3) := by decide +kernel
theorem dX2_readPhase_77 : decode cX2_readPhase 77 = .ok (.goto 46, 3) := by decide +kernel
theorem dX2_readPhase_80 : decode cX2_readPhase 80 = .ok (.iload_n 3, 1) := by decide +kernel
theorem dX2_readPhase_81 : decode cX2_readPhase 81 = .ok (.bipush 6, 2) := by decide +kernel
theorem dX2_readPhase_83 : decode cX2_readPhase 83 = .ok (.if_icmp .ne 15, 3) := by decide +kernel
theorem dX2_readPhase_86 : decode cX2_readPhase 86 = .ok (.aload_n 0, 1) := by decide +kernel
theorem dX2_readPhase_87 : decode cX2_readPhase 87 = .ok (.iconst 3, 1) := by decide +kernel
theorem dX2_readPhase_88 : decode cX2_readPhase 88 = .ok (.aload_n 0, 1) := by decide +kernel
theorem dX2_readPhase_89 : decode cX2_readPhase 89 = .ok (.getfield 28, 3) := by decide +kernel
theorem dX2_readPhase_92 : decode cX2_readPhase 92 = .ok (.invokevirtual 71, 3) := by decide +kernel
theorem dX2_readPhase_95 : decode cX2_readPhase 95 = .ok (.goto 28, 3) := by decide +kernel
theorem dX2_readPhase_98 : decode cX2_readPhase 98 = .ok (.aload_n 1, 1) := by decide +kernel
theorem dX2_readPhase_99 : decode cX2_readPhase 99 = .ok (.getfield 181, 3) := by decide +kernel
theorem dX2_readPhase_102 : decode cX2_readPhase 102 = .ok (.iload_n 3, 1) := by decide +kernel
theorem dX2_readPhase_103 : decode cX2_readPhase 103 = .ok (.aload_n 0, 1) := by decide +kernel
theorem dX2_readPhase_104 : decode cX2_readPhase 104 = .ok (.aload_n 1, 1) := by decide +kernel
theorem dX2_readPhase_105 : decode cX2_readPhase 105 = .ok (.iload_n 2, 1) := by decide +kernel
theorem dX2_readPhase_106 : decode cX2_readPhase 106 = .ok (.invokevirtual 184, 3) := by decide +kernel
theorem dX2_readPhase_109 : decode cX2_readPhase 109 = .ok (.iastore, 1) := by decide +kernel
theorem dX2_readPhase_110 : decode cX2_readPhase 110 = .ok (.aload_n 1, 1) := by decide +kernel
theorem dX2_readPhase_111 : decode cX2_readPhase 111 = .ok (.iload_n 3, 1) := by decide +kernel
theorem dX2_readPhase_112 : decode cX2_readPhase 112 = .ok (.iconst 1, 1) := by decide +kernel
theorem dX2_readPhase_113 : decode cX2_readPhase 113 = .ok (.iadd, 1) := by decide +kernel
theorem dX2_readPhase_114 : decode cX2_readPhase 114 = .ok (.putfield 172, 3) := by decide +kernel
theorem dX2_readPhase_117 : decode cX2_readPhase 117 = .ok (.iinc 3 1, 3) := by decide +kernel
theorem dX2_readPhase_120 : decode cX2_readPhase 120 = .ok (.goto (-71), 3) := by decide +kernel
theorem dX2_readPhase_123 : decode cX2_readPhase 123 = .ok (.aload_n 0, 1) := by decide +kernel
theorem dX2_readPhase_124 : decode cX2_readPhase 124 = .ok (.bipush 59, 2) := by decide +kernel
theorem dX2_readPhase_126 : decode cX2_readPhase 126 = .ok (.invokevirtual 125, 3) := by decide +kernel
theorem dX2_readPhase_129 : decode cX2_readPhase 129 = .ok (.aload_n 0, 1) := by decide +kernel
theorem dX2_readPhase_130 : decode cX2_readPhase 130 = .ok (.getfield 48, 3) := by decide +kernel
theorem dX2_readPhase_133 : decode cX2_readPhase 133 = .ok (.aload_n 0, 1) := by decide +kernel
theorem dX2_readPhase_134 : decode cX2_readPhase 134 = .ok (.getfield 12, 3) := by decide +kernel
theorem dX2_readPhase_137 : decode cX2_readPhase 137 = .ok (.getfield 166, 3) := by decide +kernel
theorem dX2_readPhase_140 : decode cX2_readPhase 140 = .ok (.iload_n 2, 1) := by decide +kernel
theorem dX2_readPhase_141 : decode cX2_readPhase 141 = .ok (.iastore, 1) := by decide +kernel
theorem dX2_readPhase_142 : decode cX2_readPhase 142 = .ok (.aload_n 0, 1) := by decide +kernel
theorem dX2_readPhase_143 : decode cX2_readPhase 143 = .ok (.getfield 12, 3) := by decide +kernel
theorem dX2_readPhase_146 : decode cX2_readPhase 146 = .ok (.dup, 1) := by decide +kernel
theorem dX2_readPhase_147 : decode cX2_readPhase 147 = .ok (.getfield 166, 3) := by decide +kernel
theorem dX2_readPhase_150 : decode cX2_readPhase 150 = .ok (.iconst 1, 1) := by decide +kernel
theorem dX2_readPhase_151 : decode cX2_readPhase 151 = .ok (.iadd, 1) := by decide +kernel
theorem dX2_readPhase_152 : decode cX2_readPhase 152 = .ok (.putfield 166, 3) := by decide +kernel
theorem dX2_readPhase_155 : decode cX2_readPhase 155 = .ok (.return_, 1) := by decide +kernel
theorem dX2_readMember_0 : decode cX2_readMember 0 = .ok (.aload_n 0, 1) := by decide +kernel
theorem dX2_readMember_1 : decode cX2_readMember 1 = .ok (.invokevirtual 188, 3) := by decide +kernel
theorem dX2_readMember_4 : decode cX2_readMember 4 = .ok (.istore_n 3, 1) := by decide +kernel
theorem dX2_readMember_5 : decode cX2_readMember 5 = .ok (.iload_n 3, 1) := by decide +kernel
theorem dX2_readMember_6 : decode cX2_readMember 6 = .ok (.aload_n 0, 1) := by decide +kernel
theorem dX2_readMember_7 : decode cX2_readMember 7 = .ok (.getfield 44, 3) := by decide +kernel
theorem dX2_readMember_10 : decode cX2_readMember 10 = .ok (.aload_n 0, 1) := by decide +kernel
theorem dX2_readMember_11 : decode cX2_readMember 11 = .ok (.getfield 12, 3) := by decide +kernel
theorem dX2_readMember_14 : decode cX2_readMember 14 = .ok (.getfield 141, 3) := by decide +kernel
theorem dX2_readMember_17 : decode cX2_readMember 17 = .ok (.invokestatic 191, 3) := by decide +kernel
theorem dX2_readMember_20 : decode cX2_readMember 20 = .ok (.istore 4, 2) := by decide +kernel
theorem dX2_readMember_22 : decode cX2_readMember 22 = .ok (.iload_n 3, 1) := by decide +kernel
theorem dX2_readMember_23 : decode cX2_readMember 23 = .ok (.iload_n 2, 1) := by decide +kernel
theorem dX2_readMember_24 : decode cX2_readMember 24 = .ok (.if_icmp .ne 7, 3) := by decide +kernel
theorem dX2_readMember_27 : decode cX2_readMember 27 = .ok (.iconst 1, 1) := by decide +kernel
theorem dX2_readMember_28 : decode cX2_readMember 28 = .ok (.goto 4, 3) := by decide +kernel
theorem dX2_readMember_31 : decode cX2_readMember 31 = .ok (.iconst 0, 1) := by decide +kernel
theorem dX2_readMember_32 : decode cX2_readMember 32 = .ok (.istore 5, 2) := by decide +kernel
theorem dX2_readMember_34 : decode cX2_readMember 34 = .ok (.iconst 0, 1) := by decide +kernel
theorem dX2_readMember_35 : decode cX2_readMember 35 = .ok (.istore 6, 2) := by decide +kernel
theorem dX2_readMember_37 : decode cX2_readMember 37 = .ok (.iload 6, 2) := by decide +kernel
theorem dX2_readMember_39 : decode cX2_readMember 39 = .ok (.aload_n 1, 1) := by decide +kernel
theorem dX2_readMember_40 : decode cX2_readMember 40 = .ok (.getfield 172, 3) := by decide +kernel
theorem dX2_readMember_43 : decode cX2_readMember 43 = .ok (.if_icmp .ge 33, 3) := by decide +kernel
theorem dX2_readMember_46 : decode cX2_readMember 46 = .ok (.iload 5, 2) := by decide +kernel
theorem dX2_readMember_48 : decode cX2_readMember 48 = .ok (.ifCond .ne 15, 3) := by decide +kernel
theorem dX2_readMember_51 : decode cX2_readMember 51 = .ok (.aload_n 1, 1) := by decide +kernel
theorem dX2_readMember_52 : decode cX2_readMember 52 = .ok (.getfield 181, 3) := by decide +kernel
theorem dX2_readMember_55 : decode cX2_readMember 55 = .ok (.iload 6, 2) := by decide +kernel
theorem dX2_readMember_57 : decode cX2_readMember 57 = .ok (.iaload, 1) := by decide +kernel
theorem dX2_readMember_58 : decode cX2_readMember 58 = .ok (.iload 4, 2) := by decide +kernel
theorem dX2_readMember_60 : decode cX2_readMember 60 = .ok (.if_icmp .ne 7, 3) := by decide +kernel
theorem dX2_readMember_63 : decode cX2_readMember 63 = .ok (.iconst 1, 1) := by decide +kernel
theorem dX2_readMember_64 : decode cX2_readMember 64 = .ok (.goto 4, 3) := by decide +kernel
theorem dX2_readMember_67 : decode cX2_readMember 67 = .ok (.iconst 0, 1) := by decide +kernel
theorem dX2_readMember_68 : decode cX2_readMember 68 = .ok (.istore 5, 2) := by decide +kernel
theorem dX2_readMember_70 : decode cX2_readMember 70 = .ok (.iinc 6 1, 3) := by decide +kernel
theorem dX2_readMember_73 : decode cX2_readMember 73 = .ok (.goto (-36), 3) := by decide +kernel
theorem dX2_readMember_76 : decode cX2_readMember 76 = .ok (.iload 5, 2) := by decide +kernel
theorem dX2_readMember_78 : decode cX2_readMember 78 = .ok (.ifCond .eq 15, 3) := by decide +kernel
theorem dX2_readMember_81 : decode cX2_readMember 81 = .ok (.aload_n 0, 1) := by decide +kernel
theorem dX2_readMember_82 : decode cX2_readMember 82 = .ok (.iconst 4, 1) := by decide +kernel
theorem dX2_readMember_83 : decode cX2_readMember 83 = .ok (.aload_n 0, 1) := by decide +kernel
theorem dX2_readMember_84 : decode cX2_readMember 84 = .ok (.getfield 31, 3) := by decide +kernel
theorem dX2_readMember_87 : decode cX2_readMember 87 = .ok (.invokevirtual 71, 3) := by decide +kernel
theorem dX2_readMember_90 : decode cX2_readMember 90 = .ok (.goto 18, 3) := by decide +kernel
theorem dX2_readMember_93 : decode cX2_readMember 93 = .ok (.iload 4, 2) := by decide +kernel
theorem dX2_readMember_95 : decode cX2_readMember 95 = .ok (.iconst (-1), 1) := by decide +kernel
theorem dX2_readMember_96 : decode cX2_readMember 96 = .ok (.if_icmp .ne 12, 3) := by decide +kernel
theorem dX2_readMember_99 : decode cX2_readMember 99 = .ok (.aload_n 0, 1) := by decide +kernel
theorem dX2_readMember_100 : decode cX2_readMember 100 = .ok (.iconst 5, 1) := by decide +kernel
theorem dX2_readMember_101 : decode cX2_readMember 101 = .ok (.aload_n 0, 1) := by decide +kernel
theorem dX2_readMember_102 : decode cX2_readMember 102 = .ok (.getfield 31, 3) := by decide +kernel
theorem dX2_readMember_105 : decode cX2_readMember 105 = .ok (.invokevirtual 71, 3) := by decide +kernel
theorem dX2_readMember_108 : decode cX2_readMember 108 = .ok (.iload 4, 2) := by decide +kernel
theorem dX2_readMember_110 : decode cX2_readMember 110 = .ok (.ireturn, 1) := by decide +kernel
theorem dX2_readSigma_0 : decode cX2_readSigma 0 = .ok (.aload_n 0, 1) := by decide +kernel
theorem dX2_readSigma_1 : decode cX2_readSigma 1 = .ok (.getfield 37, 3) := by decide +kernel
theorem dX2_readSigma_4 : decode cX2_readSigma 4 = .ok (.ifCond .eq 12, 3) := by decide +kernel
theorem dX2_readSigma_7 : decode cX2_readSigma 7 = .ok (.aload_n 0, 1) := by decide +kernel
theorem dX2_readSigma_8 : decode cX2_readSigma 8 = .ok (.iconst 3, 1) := by decide +kernel
theorem dX2_readSigma_9 : decode cX2_readSigma 9 = .ok (.aload_n 0, 1) := by decide +kernel
theorem dX2_readSigma_10 : decode cX2_readSigma 10 = .ok (.getfield 31, 3) := by decide +kernel
theorem dX2_readSigma_13 : decode cX2_readSigma 13 = .ok (.invokevirtual 71, 3) := by decide +kernel
theorem dX2_readSigma_16 : decode cX2_readSigma 16 = .ok (.aload_n 0, 1) := by decide +kernel
theorem dX2_readSigma_17 : decode cX2_readSigma 17 = .ok (.iconst 1, 1) := by decide +kernel
theorem dX2_readSigma_18 : decode cX2_readSigma 18 = .ok (.putfield 37, 3) := by decide +kernel
theorem dX2_readSigma_21 : decode cX2_readSigma 21 = .ok (.aload_n 0, 1) := by decide +kernel
theorem dX2_readSigma_22 : decode cX2_readSigma 22 = .ok (.getfield 12, 3) := by decide +kernel
theorem dX2_readSigma_25 : decode cX2_readSigma 25 = .ok (.aload_n 0, 1) := by decide +kernel
theorem dX2_readSigma_26 : decode cX2_readSigma 26 = .ok (.iconst 1, 1) := by decide +kernel
theorem dX2_readSigma_27 : decode cX2_readSigma 27 = .ok (.iconst 3, 1) := by decide +kernel
theorem dX2_readSigma_28 : decode cX2_readSigma 28 = .ok (.invokevirtual 128, 3) := by decide +kernel
theorem dX2_readSigma_31 : decode cX2_readSigma 31 = .ok (.putfield 195, 3) := by decide +kernel
theorem dX2_readSigma_34 : decode cX2_readSigma 34 = .ok (.aload_n 0, 1) := by decide +kernel
theorem dX2_readSigma_35 : decode cX2_readSigma 35 = .ok (.bipush 59, 2) := by decide +kernel
theorem dX2_readSigma_37 : decode cX2_readSigma 37 = .ok (.invokevirtual 125, 3) := by decide +kernel
theorem dX2_readSigma_40 : decode cX2_readSigma 40 = .ok (.return_, 1) := by decide +kernel
theorem dX2_readReserve_0 : decode cX2_readReserve 0 = .ok (.aload_n 0, 1) := by decide +kernel
theorem dX2_readReserve_1 : decode cX2_readReserve 1 = .ok (.getfield 41, 3) := by decide +kernel
theorem dX2_readReserve_4 : decode cX2_readReserve 4 = .ok (.ifCond .eq 12, 3) := by decide +kernel
theorem dX2_readReserve_7 : decode cX2_readReserve 7 = .ok (.aload_n 0, 1) := by decide +kernel
theorem dX2_readReserve_8 : decode cX2_readReserve 8 = .ok (.iconst 3, 1) := by decide +kernel
theorem dX2_readReserve_9 : decode cX2_readReserve 9 = .ok (.aload_n 0, 1) := by decide +kernel
theorem dX2_readReserve_10 : decode cX2_readReserve 10 = .ok (.getfield 31, 3) := by decide +kernel
theorem dX2_readReserve_13 : decode cX2_readReserve 13 = .ok (.invokevirtual 71, 3) := by decide +kernel
theorem dX2_readReserve_16 : decode cX2_readReserve 16 = .ok (.aload_n 0, 1) := by decide +kernel
theorem dX2_readReserve_17 : decode cX2_readReserve 17 = .ok (.iconst 1, 1) := by decide +kernel
theorem dX2_readReserve_18 : decode cX2_readReserve 18 = .ok (.putfield 41, 3) := by decide +kernel
theorem dX2_readReserve_21 : decode cX2_readReserve 21 = .ok (.aload_n 0, 1) := by decide +kernel
theorem dX2_readReserve_22 : decode cX2_readReserve 22 = .ok (.invokevirtual 61, 3) := by decide +kernel
theorem dX2_readReserve_25 : decode cX2_readReserve 25 = .ok (.bipush 45, 2) := by decide +kernel
theorem dX2_readReserve_27 : decode cX2_readReserve 27 = .ok (.if_icmp .ne 7, 3) := by decide +kernel
theorem dX2_readReserve_30 : decode cX2_readReserve 30 = .ok (.iconst 1, 1) := by decide +kernel
theorem dX2_readReserve_31 : decode cX2_readReserve 31 = .ok (.goto 4, 3) := by decide +kernel
theorem dX2_readReserve_34 : decode cX2_readReserve 34 = .ok (.iconst 0, 1) := by decide +kernel
theorem dX2_readReserve_35 : decode cX2_readReserve 35 = .ok (.istore_n 1, 1) := by decide +kernel
theorem dX2_readReserve_36 : decode cX2_readReserve 36 = .ok (.aload_n 0, 1) := by decide +kernel
theorem dX2_readReserve_37 : decode cX2_readReserve 37 = .ok (.getfield 28, 3) := by decide +kernel
theorem dX2_readReserve_40 : decode cX2_readReserve 40 = .ok (.istore_n 2, 1) := by decide +kernel
theorem dX2_readReserve_41 : decode cX2_readReserve 41 = .ok (.iload_n 1, 1) := by decide +kernel
theorem dX2_readReserve_42 : decode cX2_readReserve 42 = .ok (.ifCond .eq 9, 3) := by decide +kernel
theorem dX2_readReserve_45 : decode cX2_readReserve 45 = .ok (.aload_n 0, 1) := by decide +kernel
theorem dX2_readReserve_46 : decode cX2_readReserve 46 = .ok (.bipush 45, 2) := by decide +kernel
theorem dX2_readReserve_48 : decode cX2_readReserve 48 = .ok (.invokevirtual 125, 3) := by decide +kernel
theorem dX2_readReserve_51 : decode cX2_readReserve 51 = .ok (.aload_n 0, 1) := by decide +kernel
theorem dX2_readReserve_52 : decode cX2_readReserve 52 = .ok (.iconst 0, 1) := by decide +kernel
theorem dX2_readReserve_53 : decode cX2_readReserve 53 = .ok (.ldc 199, 2) := by decide +kernel
theorem dX2_readReserve_55 : decode cX2_readReserve 55 = .ok (.invokevirtual 128, 3) := by decide +kernel
theorem dX2_readReserve_58 : decode cX2_readReserve 58 = .ok (.istore_n 3, 1) := by decide +kernel
theorem dX2_readReserve_59 : decode cX2_readReserve 59 = .ok (.iload_n 3, 1) := by decide +kernel
theorem dX2_readReserve_60 : decode cX2_readReserve 60 = .ok (.sipush 500, 3) := by decide +kernel
theorem dX2_readReserve_63 : decode cX2_readReserve 63 = .ok (.if_icmp .le 9, 3) := by decide +kernel
theorem dX2_readReserve_66 : decode cX2_readReserve 66 = .ok (.aload_n 0, 1) := by decide +kernel
theorem dX2_readReserve_67 : decode cX2_readReserve 67 = .ok (.iconst 2, 1) := by decide +kernel
theorem dX2_readReserve_68 : decode cX2_readReserve 68 = .ok (.iload_n 2, 1) := by decide +kernel
theorem dX2_readReserve_69 : decode cX2_readReserve 69 = .ok (.invokevirtual 71, 3) := by decide +kernel
theorem dX2_readReserve_72 : decode cX2_readReserve 72 = .ok (.aload_n 0, 1) := by decide +kernel
theorem dX2_readReserve_73 : decode cX2_readReserve 73 = .ok (.getfield 12, 3) := by decide +kernel
theorem dX2_readReserve_76 : decode cX2_readReserve 76 = .ok (.iload_n 1, 1) := by decide +kernel
theorem dX2_readReserve_77 : decode cX2_readReserve 77 = .ok (.ifCond .eq 8, 3) := by decide +kernel
theorem dX2_readReserve_80 : decode cX2_readReserve 80 = .ok (.iload_n 3, 1) := by decide +kernel
theorem dX2_readReserve_81 : decode cX2_readReserve 81 = .ok (.ineg, 1) := by decide +kernel
theorem dX2_readReserve_82 : decode cX2_readReserve 82 = .ok (.goto 4, 3) := by decide +kernel
theorem dX2_readReserve_85 : decode cX2_readReserve 85 = .ok (.iload_n 3, 1) := by decide +kernel
theorem dX2_readReserve_86 : decode cX2_readReserve 86 = .ok (.putfield 200, 3) := by decide +kernel
theorem dX2_readReserve_89 : decode cX2_readReserve 89 = .ok (.aload_n 0, 1) := by decide +kernel
theorem dX2_readReserve_90 : decode cX2_readReserve 90 = .ok (.bipush 59, 2) := by decide +kernel
theorem dX2_readReserve_92 : decode cX2_readReserve 92 = .ok (.invokevirtual 125, 3) := by decide +kernel
theorem dX2_readReserve_95 : decode cX2_readReserve 95 = .ok (.return_, 1) := by decide +kernel
theorem dX2_readRule_0 : decode cX2_readRule 0 = .ok (.aload_n 0, 1) := by decide +kernel
theorem dX2_readRule_1 : decode cX2_readRule 1 = .ok (.getfield 12, 3) := by decide +kernel
theorem dX2_readRule_4 : decode cX2_readRule 4 = .ok (.getfield 202, 3) := by decide +kernel
theorem dX2_readRule_7 : decode cX2_readRule 7 = .ok (.bipush 24, 2) := by decide +kernel
theorem dX2_readRule_9 : decode cX2_readRule 9 = .ok (.if_icmp .lt 13, 3) := by decide +kernel
theorem dX2_readRule_12 : decode cX2_readRule 12 = .ok (.aload_n 0, 1) := by decide +kernel
theorem dX2_readRule_13 : decode cX2_readRule 13 = .ok (.iconst 3, 1) := by decide +kernel
theorem dX2_readRule_14 : decode cX2_readRule 14 = .ok (.aload_n 0, 1) := by decide +kernel
theorem dX2_readRule_15 : decode cX2_readRule 15 = .ok (.getfield 31, 3) := by decide +kernel
theorem dX2_readRule_18 : decode cX2_readRule 18 = .ok (.invokevirtual 71, 3) := by decide +kernel
theorem dX2_readRule_21 : decode cX2_readRule 21 = .ok (.return_, 1) := by decide +kernel
theorem dX2_readRule_22 : decode cX2_readRule 22 = .ok (.iload_n 1, 1) := by decide +kernel
theorem dX2_readRule_23 : decode cX2_readRule 23 = .ok (.iconst 4, 1) := by decide +kernel
theorem dX2_readRule_24 : decode cX2_readRule 24 = .ok (.if_icmp .eq 8, 3) := by decide +kernel
theorem dX2_readRule_27 : decode cX2_readRule 27 = .ok (.iload_n 1, 1) := by decide +kernel
theorem dX2_readRule_28 : decode cX2_readRule 28 = .ok (.iconst 5, 1) := by decide +kernel
theorem dX2_readRule_29 : decode cX2_readRule 29 = .ok (.if_icmp .ne 7, 3) := by decide +kernel
theorem dX2_readRule_32 : decode cX2_readRule 32 = .ok (.iconst 1, 1) := by decide +kernel
theorem dX2_readRule_33 : decode cX2_readRule 33 = .ok (.goto 4, 3) := by decide +kernel
theorem dX2_readRule_36 : decode cX2_readRule 36 = .ok (.iconst 0, 1) := by decide +kernel
theorem dX2_readRule_37 : decode cX2_readRule 37 = .ok (.istore_n 2, 1) := by decide +kernel
theorem dX2_readRule_38 : decode cX2_readRule 38 = .ok (.iload_n 2, 1) := by decide +kernel
theorem dX2_readRule_39 : decode cX2_readRule 39 = .ok (.ifCond .eq 11, 3) := by decide +kernel
theorem dX2_readRule_42 : decode cX2_readRule 42 = .ok (.aload_n 0, 1) := by decide +kernel
theorem dX2_readRule_43 : decode cX2_readRule 43 = .ok (.iconst (-1), 1) := by decide +kernel
theorem dX2_readRule_44 : decode cX2_readRule 44 = .ok (.invokevirtual 205, 3) := by decide +kernel
theorem dX2_readRule_47 : decode cX2_readRule 47 = .ok (.goto 8, 3) := by decide +kernel
theorem dX2_readRule_50 : decode cX2_readRule 50 = .ok (.aload_n 0, 1) := by decide +kernel
theorem dX2_readRule_51 : decode cX2_readRule 51 = .ok (.iconst (-1), 1) := by decide +kernel
theorem dX2_readRule_52 : decode cX2_readRule 52 = .ok (.invokevirtual 209, 3) := by decide +kernel
theorem dX2_readRule_55 : decode cX2_readRule 55 = .ok (.istore_n 3, 1) := by decide +kernel
theorem dX2_readRule_56 : decode cX2_readRule 56 = .ok (.iconst (-1), 1) := by decide +kernel
theorem dX2_readRule_57 : decode cX2_readRule 57 = .ok (.istore 4, 2) := by decide +kernel
theorem dX2_readRule_59 : decode cX2_readRule 59 = .ok (.iconst 0, 1) := by decide +kernel
theorem dX2_readRule_60 : decode cX2_readRule 60 = .ok (.istore 5, 2) := by decide +kernel
theorem dX2_readRule_62 : decode cX2_readRule 62 = .ok (.iconst (-1), 1) := by decide +kernel
theorem dX2_readRule_63 : decode cX2_readRule 63 = .ok (.istore 6, 2) := by decide +kernel
theorem dX2_readRule_65 : decode cX2_readRule 65 = .ok (.iload_n 1, 1) := by decide +kernel
theorem dX2_readRule_66 : decode cX2_readRule 66 = .ok (.ifCond .eq 8, 3) := by decide +kernel
theorem dX2_readRule_69 : decode cX2_readRule 69 = .ok (.iload_n 1, 1) := by decide +kernel
theorem dX2_readRule_70 : decode cX2_readRule 70 = .ok (.iconst 1, 1) := by decide +kernel
theorem dX2_readRule_71 : decode cX2_readRule 71 = .ok (.if_icmp .ne 13, 3) := by decide +kernel
theorem dX2_readRule_74 : decode cX2_readRule 74 = .ok (.aload_n 0, 1) := by decide +kernel
theorem dX2_readRule_75 : decode cX2_readRule 75 = .ok (.iload_n 3, 1) := by decide +kernel
theorem dX2_readRule_76 : decode cX2_readRule 76 = .ok (.invokevirtual 209, 3) := by decide +kernel
theorem dX2_readRule_79 : decode cX2_readRule 79 = .ok (.istore 4, 2) := by decide +kernel
theorem dX2_readRule_81 : decode cX2_readRule 81 = .ok (.goto 28, 3) := by decide +kernel
theorem dX2_readRule_84 : decode cX2_readRule 84 = .ok (.iload_n 1, 1) := by decide +kernel
theorem dX2_readRule_85 : decode cX2_readRule 85 = .ok (.iconst 4, 1) := by decide +kernel
theorem dX2_readRule_86 : decode cX2_readRule 86 = .ok (.if_icmp .ne 13, 3) := by decide +kernel
theorem dX2_readRule_89 : decode cX2_readRule 89 = .ok (.aload_n 0, 1) := by decide +kernel
theorem dX2_readRule_90 : decode cX2_readRule 90 = .ok (.iload_n 3, 1) := by decide +kernel
theorem dX2_readRule_91 : decode cX2_readRule 91 = .ok (.invokevirtual 205, 3) := by decide +kernel
theorem dX2_readRule_94 : decode cX2_readRule 94 = .ok (.istore 4, 2) := by decide +kernel
theorem dX2_readRule_96 : decode cX2_readRule 96 = .ok (.goto 13, 3) := by decide +kernel
theorem dX2_readRule_99 : decode cX2_readRule 99 = .ok (.aload_n 0, 1) := by decide +kernel
theorem dX2_readRule_100 : decode cX2_readRule 100 = .ok (.iconst 0, 1) := by decide +kernel
theorem dX2_readRule_101 : decode cX2_readRule 101 = .ok (.sipush 999, 3) := by decide +kernel
theorem dX2_readRule_104 : decode cX2_readRule 104 = .ok (.invokevirtual 128, 3) := by decide +kernel
theorem dX2_readRule_107 : decode cX2_readRule 107 = .ok (.istore 5, 2) := by decide +kernel
theorem dX2_readRule_109 : decode cX2_readRule 109 = .ok (.iload_n 1, 1) := by decide +kernel
theorem dX2_readRule_110 : decode cX2_readRule 110 = .ok (.ifCond .eq 8, 3) := by decide +kernel
theorem dX2_readRule_113 : decode cX2_readRule 113 = .ok (.iload_n 1, 1) := by decide +kernel
theorem dX2_readRule_114 : decode cX2_readRule 114 = .ok (.iconst 4, 1) := by decide +kernel
theorem dX2_readRule_115 : decode cX2_readRule 115 = .ok (.if_icmp .ne 23, 3) := by decide +kernel
theorem dX2_readRule_118 : decode cX2_readRule 118 = .ok (.aload_n 0, 1) := by decide +kernel
theorem dX2_readRule_119 : decode cX2_readRule 119 = .ok (.invokevirtual 61, 3) := by decide +kernel
theorem dX2_readRule_122 : decode cX2_readRule 122 = .ok (.invokestatic 212, 3) := by decide +kernel
theorem dX2_readRule_125 : decode cX2_readRule 125 = .ok (.ifCond .eq 13, 3) := by decide +kernel
theorem dX2_readRule_128 : decode cX2_readRule 128 = .ok (.aload_n 0, 1) := by decide +kernel
theorem dX2_readRule_129 : decode cX2_readRule 129 = .ok (.iconst 0, 1) := by decide +kernel
theorem dX2_readRule_130 : decode cX2_readRule 130 = .ok (.sipush 999, 3) := by decide +kernel
theorem dX2_readRule_133 : decode cX2_readRule 133 = .ok (.invokevirtual 128, 3) := by decide +kernel
theorem dX2_readRule_136 : decode cX2_readRule 136 = .ok (.istore 5, 2) := by decide +kernel
theorem dX2_readRule_138 : decode cX2_readRule 138 = .ok (.iload_n 1, 1) := by decide +kernel
theorem dX2_readRule_139 : decode cX2_readRule 139 = .ok (.ifCond .ne 30, 3) := by decide +kernel
theorem dX2_readRule_142 : decode cX2_readRule 142 = .ok (.aload_n 0, 1) := by decide +kernel
theorem dX2_readRule_143 : decode cX2_readRule 143 = .ok (.invokevirtual 61, 3) := by decide +kernel
theorem dX2_readRule_146 : decode cX2_readRule 146 = .ok (.invokestatic 212, 3) := by decide +kernel
theorem dX2_readRule_149 : decode cX2_readRule 149 = .ok (.ifCond .eq 15, 3) := by decide +kernel
theorem dX2_readRule_152 : decode cX2_readRule 152 = .ok (.aload_n 0, 1) := by decide +kernel
theorem dX2_readRule_153 : decode cX2_readRule 153 = .ok (.iload 5, 2) := by decide +kernel
theorem dX2_readRule_155 : decode cX2_readRule 155 = .ok (.sipush 999, 3) := by decide +kernel
theorem dX2_readRule_158 : decode cX2_readRule 158 = .ok (.invokevirtual 128, 3) := by decide +kernel
theorem dX2_readRule_161 : decode cX2_readRule 161 = .ok (.goto 6, 3) := by decide +kernel
theorem dX2_readRule_164 : decode cX2_readRule 164 = .ok (.sipush 999, 3) := by decide +kernel
theorem dX2_readRule_167 : decode cX2_readRule 167 = .ok (.istore 6, 2) := by decide +kernel
theorem dX2_readRule_169 : decode cX2_readRule 169 = .ok (.aload_n 0, 1) := by decide +kernel
theorem dX2_readRule_170 : decode cX2_readRule 170 = .ok (.bipush 59, 2) := by decide +kernel
theorem dX2_readRule_172 : decode cX2_readRule 172 = .ok (.invokevirtual 125, 3) := by decide +kernel
theorem dX2_readRule_175 : decode cX2_readRule 175 = .ok (.aload_n 0, 1) := by decide +kernel
theorem dX2_readRule_176 : decode cX2_readRule 176 = .ok (.getfield 12, 3) := by decide +kernel
theorem dX2_readRule_179 : decode cX2_readRule 179 = .ok (.iload_n 1, 1) := by decide +kernel
theorem dX2_readRule_180 : decode cX2_readRule 180 = .ok (.iload_n 3, 1) := by decide +kernel
theorem dX2_readRule_181 : decode cX2_readRule 181 = .ok (.iload 4, 2) := by decide +kernel
theorem dX2_readRule_183 : decode cX2_readRule 183 = .ok (.iload 5, 2) := by decide +kernel
theorem dX2_readRule_185 : decode cX2_readRule 185 = .ok (.iload 6, 2) := by decide +kernel
theorem dX2_readRule_187 : decode cX2_readRule 187 = .ok (.invokevirtual 215, 3) := by decide +kernel
theorem dX2_readRule_190 : decode cX2_readRule 190 = .ok (.return_, 1) := by decide +kernel
theorem dX2_readSampleName_0 : decode cX2_readSampleName 0 = .ok (.aload_n 0, 1) := by decide +kernel
theorem dX2_readSampleName_1 : decode cX2_readSampleName 1 = .ok (.aload_n 0, 1) := by decide +kernel
theorem dX2_readSampleName_2 : decode cX2_readSampleName 2 = .ok (.invokevirtual 188, 3) := by decide +kernel
theorem dX2_readSampleName_5 : decode cX2_readSampleName 5 = .ok (.aload_n 0, 1) := by decide +kernel
theorem dX2_readSampleName_6 : decode cX2_readSampleName 6 = .ok (.getfield 44, 3) := by decide +kernel
theorem dX2_readSampleName_9 : decode cX2_readSampleName 9 = .ok (.aload_n 0, 1) := by decide +kernel
theorem dX2_readSampleName_10 : decode cX2_readSampleName 10 = .ok (.getfield 12, 3) := by decide +kernel
theorem dX2_readSampleName_13 : decode cX2_readSampleName 13 = .ok (.getfield 141, 3) := by decide +kernel
theorem dX2_readSampleName_16 : decode cX2_readSampleName 16 = .ok (.invokestatic 191, 3) := by decide +kernel
theorem dX2_readSampleName_19 : decode cX2_readSampleName 19 = .ok (.iload_n 1, 1) := by decide +kernel
theorem dX2_readSampleName_20 : decode cX2_readSampleName 20 = .ok (.invokevirtual 219, 3) := by decide +kernel
theorem dX2_readSampleName_23 : decode cX2_readSampleName 23 = .ok (.ireturn, 1) := by decide +kernel
theorem dX2_readPhaseName_0 : decode cX2_readPhaseName 0 = .ok (.aload_n 0, 1) := by decide +kernel
theorem dX2_readPhaseName_1 : decode cX2_readPhaseName 1 = .ok (.aload_n 0, 1) := by decide +kernel
theorem dX2_readPhaseName_2 : decode cX2_readPhaseName 2 = .ok (.invokevirtual 188, 3) := by decide +kernel
theorem dX2_readPhaseName_5 : decode cX2_readPhaseName 5 = .ok (.aload_n 0, 1) := by decide +kernel
theorem dX2_readPhaseName_6 : decode cX2_readPhaseName 6 = .ok (.getfield 48, 3) := by decide +kernel
theorem dX2_readPhaseName_9 : decode cX2_readPhaseName 9 = .ok (.aload_n 0, 1) := by decide +kernel
theorem dX2_readPhaseName_10 : decode cX2_readPhaseName 10 = .ok (.getfield 12, 3) := by decide +kernel
theorem dX2_readPhaseName_13 : decode cX2_readPhaseName 13 = .ok (.getfield 166, 3) := by decide +kernel
theorem dX2_readPhaseName_16 : decode cX2_readPhaseName 16 = .ok (.invokestatic 191, 3) := by decide +kernel
theorem dX2_readPhaseName_19 : decode cX2_readPhaseName 19 = .ok (.iload_n 1, 1) := by decide +kernel
theorem dX2_readPhaseName_20 : decode cX2_readPhaseName 20 = .ok (.invokevirtual 219, 3) := by decide +kernel
theorem dX2_readPhaseName_23 : decode cX2_readPhaseName 23 = .ok (.ireturn, 1) := by decide +kernel
theorem dX2_known_0 : decode cX2_known 0 = .ok (.iload_n 1, 1) := by decide +kernel
theorem dX2_known_1 : decode cX2_known 1 = .ok (.iconst (-1), 1) := by decide +kernel
theorem dX2_known_2 : decode cX2_known 2 = .ok (.if_icmp .ne 15, 3) := by decide +kernel
theorem dX2_known_5 : decode cX2_known 5 = .ok (.aload_n 0, 1) := by decide +kernel
theorem dX2_known_6 : decode cX2_known 6 = .ok (.iconst 5, 1) := by decide +kernel
theorem dX2_known_7 : decode cX2_known 7 = .ok (.aload_n 0, 1) := by decide +kernel
theorem dX2_known_8 : decode cX2_known 8 = .ok (.getfield 31, 3) := by decide +kernel
theorem dX2_known_11 : decode cX2_known 11 = .ok (.invokevirtual 71, 3) := by decide +kernel
theorem dX2_known_14 : decode cX2_known 14 = .ok (.goto 17, 3) := by decide +kernel
theorem dX2_known_17 : decode cX2_known 17 = .ok (.iload_n 1, 1) := by decide +kernel
theorem dX2_known_18 : decode cX2_known 18 = .ok (.iload_n 2, 1) := by decide +kernel
theorem dX2_known_19 : decode cX2_known 19 = .ok (.if_icmp .ne 12, 3) := by decide +kernel
theorem dX2_known_22 : decode cX2_known 22 = .ok (.aload_n 0, 1) := by decide +kernel
theorem dX2_known_23 : decode cX2_known 23 = .ok (.iconst 4, 1) := by decide +kernel
theorem dX2_known_24 : decode cX2_known 24 = .ok (.aload_n 0, 1) := by decide +kernel
theorem dX2_known_25 : decode cX2_known 25 = .ok (.getfield 31, 3) := by decide +kernel
theorem dX2_known_28 : decode cX2_known 28 = .ok (.invokevirtual 71, 3) := by decide +kernel
theorem dX2_known_31 : decode cX2_known 31 = .ok (.iload_n 1, 1) := by decide +kernel
theorem dX2_known_32 : decode cX2_known 32 = .ok (.ireturn, 1) := by decide +kernel
theorem dX2_numberOf_0 : decode cX2_numberOf 0 = .ok (.iconst 0, 1) := by decide +kernel
theorem dX2_numberOf_1 : decode cX2_numberOf 1 = .ok (.istore_n 3, 1) := by decide +kernel
theorem dX2_numberOf_2 : decode cX2_numberOf 2 = .ok (.iload_n 3, 1) := by decide +kernel
theorem dX2_numberOf_3 : decode cX2_numberOf 3 = .ok (.iload_n 2, 1) := by decide +kernel
theorem dX2_numberOf_4 : decode cX2_numberOf 4 = .ok (.if_icmp .ge 18, 3) := by decide +kernel
theorem dX2_numberOf_7 : decode cX2_numberOf 7 = .ok (.aload_n 1, 1) := by decide +kernel
theorem dX2_numberOf_8 : decode cX2_numberOf 8 = .ok (.iload_n 3, 1) := by decide +kernel
theorem dX2_numberOf_9 : decode cX2_numberOf 9 = .ok (.iaload, 1) := by decide +kernel
theorem dX2_numberOf_10 : decode cX2_numberOf 10 = .ok (.iload_n 0, 1) := by decide +kernel
theorem dX2_numberOf_11 : decode cX2_numberOf 11 = .ok (.if_icmp .ne 5, 3) := by decide +kernel
theorem dX2_numberOf_14 : decode cX2_numberOf 14 = .ok (.iload_n 3, 1) := by decide +kernel
theorem dX2_numberOf_15 : decode cX2_numberOf 15 = .ok (.ireturn, 1) := by decide +kernel
theorem dX2_numberOf_16 : decode cX2_numberOf 16 = .ok (.iinc 3 1, 3) := by decide +kernel
theorem dX2_numberOf_19 : decode cX2_numberOf 19 = .ok (.goto (-17), 3) := by decide +kernel
theorem dX2_numberOf_22 : decode cX2_numberOf 22 = .ok (.iconst (-1), 1) := by decide +kernel
theorem dX2_numberOf_23 : decode cX2_numberOf 23 = .ok (.ireturn, 1) := by decide +kernel
theorem dX2_readNewName_0 : decode cX2_readNewName 0 = .ok (.aload_n 0, 1) := by decide +kernel
theorem dX2_readNewName_1 : decode cX2_readNewName 1 = .ok (.invokevirtual 188, 3) := by decide +kernel
theorem dX2_readNewName_4 : decode cX2_readNewName 4 = .ok (.istore_n 1, 1) := by decide +kernel
theorem dX2_readNewName_5 : decode cX2_readNewName 5 = .ok (.iload_n 1, 1) := by decide +kernel
theorem dX2_readNewName_6 : decode cX2_readNewName 6 = .ok (.aload_n 0, 1) := by decide +kernel
theorem dX2_readNewName_7 : decode cX2_readNewName 7 = .ok (.getfield 44, 3) := by decide +kernel
theorem dX2_readNewName_10 : decode cX2_readNewName 10 = .ok (.aload_n 0, 1) := by decide +kernel
theorem dX2_readNewName_11 : decode cX2_readNewName 11 = .ok (.getfield 12, 3) := by decide +kernel
theorem dX2_readNewName_14 : decode cX2_readNewName 14 = .ok (.getfield 141, 3) := by decide +kernel
theorem dX2_readNewName_17 : decode cX2_readNewName 17 = .ok (.invokestatic 191, 3) := by decide +kernel
theorem dX2_readNewName_20 : decode cX2_readNewName 20 = .ok (.iconst (-1), 1) := by decide +kernel
theorem dX2_readNewName_21 : decode cX2_readNewName 21 = .ok (.if_icmp .ne 22, 3) := by decide +kernel
theorem dX2_readNewName_24 : decode cX2_readNewName 24 = .ok (.iload_n 1, 1) := by decide +kernel
theorem dX2_readNewName_25 : decode cX2_readNewName 25 = .ok (.aload_n 0, 1) := by decide +kernel
theorem dX2_readNewName_26 : decode cX2_readNewName 26 = .ok (.getfield 48, 3) := by decide +kernel
theorem dX2_readNewName_29 : decode cX2_readNewName 29 = .ok (.aload_n 0, 1) := by decide +kernel
theorem dX2_readNewName_30 : decode cX2_readNewName 30 = .ok (.getfield 12, 3) := by decide +kernel
theorem dX2_readNewName_33 : decode cX2_readNewName 33 = .ok (.getfield 166, 3) := by decide +kernel
theorem dX2_readNewName_36 : decode cX2_readNewName 36 = .ok (.invokestatic 191, 3) := by decide +kernel
theorem dX2_readNewName_39 : decode cX2_readNewName 39 = .ok (.iconst (-1), 1) := by decide +kernel
theorem dX2_readNewName_40 : decode cX2_readNewName 40 = .ok (.if_icmp .eq 12, 3) := by decide +kernel
theorem dX2_readNewName_43 : decode cX2_readNewName 43 = .ok (.aload_n 0, 1) := by decide +kernel
theorem dX2_readNewName_44 : decode cX2_readNewName 44 = .ok (.iconst 4, 1) := by decide +kernel
theorem dX2_readNewName_45 : decode cX2_readNewName 45 = .ok (.aload_n 0, 1) := by decide +kernel
theorem dX2_readNewName_46 : decode cX2_readNewName 46 = .ok (.getfield 31, 3) := by decide +kernel
theorem dX2_readNewName_49 : decode cX2_readNewName 49 = .ok (.invokevirtual 71, 3) := by decide +kernel
theorem dX2_readNewName_52 : decode cX2_readNewName 52 = .ok (.iload_n 1, 1) := by decide +kernel
theorem dX2_readNewName_53 : decode cX2_readNewName 53 = .ok (.ireturn, 1) := by decide +kernel
theorem dX2_readName_0 : decode cX2_readName 0 = .ok (.aload_n 0, 1) := by decide +kernel
theorem dX2_readName_1 : decode cX2_readName 1 = .ok (.invokevirtual 65, 3) := by decide +kernel
theorem dX2_readName_4 : decode cX2_readName 4 = .ok (.aload_n 0, 1) := by decide +kernel
theorem dX2_readName_5 : decode cX2_readName 5 = .ok (.getfield 34, 3) := by decide +kernel
theorem dX2_readName_8 : decode cX2_readName 8 = .ok (.aload_n 0, 1) := by decide +kernel
theorem dX2_readName_9 : decode cX2_readName 9 = .ok (.getfield 31, 3) := by decide +kernel
theorem dX2_readName_12 : decode cX2_readName 12 = .ok (.isub, 1) := by decide +kernel
theorem dX2_readName_13 : decode cX2_readName 13 = .ok (.bipush 6, 2) := by decide +kernel
theorem dX2_readName_15 : decode cX2_readName 15 = .ok (.if_icmp .le 12, 3) := by decide +kernel
theorem dX2_readName_18 : decode cX2_readName 18 = .ok (.aload_n 0, 1) := by decide +kernel
theorem dX2_readName_19 : decode cX2_readName 19 = .ok (.iconst 1, 1) := by decide +kernel
theorem dX2_readName_20 : decode cX2_readName 20 = .ok (.aload_n 0, 1) := by decide +kernel
theorem dX2_readName_21 : decode cX2_readName 21 = .ok (.getfield 31, 3) := by decide +kernel
theorem dX2_readName_24 : decode cX2_readName 24 = .ok (.invokevirtual 71, 3) := by decide +kernel
theorem dX2_readName_27 : decode cX2_readName 27 = .ok (.iconst 0, 1) := by decide +kernel
theorem dX2_readName_28 : decode cX2_readName 28 = .ok (.istore_n 1, 1) := by decide +kernel
theorem dX2_readName_29 : decode cX2_readName 29 = .ok (.iconst 0, 1) := by decide +kernel
theorem dX2_readName_30 : decode cX2_readName 30 = .ok (.istore_n 2, 1) := by decide +kernel
theorem dX2_readName_31 : decode cX2_readName 31 = .ok (.iload_n 2, 1) := by decide +kernel
theorem dX2_readName_32 : decode cX2_readName 32 = .ok (.bipush 6, 2) := by decide +kernel
theorem dX2_readName_34 : decode cX2_readName 34 = .ok (.if_icmp .ge 44, 3) := by decide +kernel
theorem dX2_readName_37 : decode cX2_readName 37 = .ok (.aload_n 0, 1) := by decide +kernel
theorem dX2_readName_38 : decode cX2_readName 38 = .ok (.getfield 31, 3) := by decide +kernel
theorem dX2_readName_41 : decode cX2_readName 41 = .ok (.iload_n 2, 1) := by decide +kernel
theorem dX2_readName_42 : decode cX2_readName 42 = .ok (.iadd, 1) := by decide +kernel
theorem dX2_readName_43 : decode cX2_readName 43 = .ok (.aload_n 0, 1) := by decide +kernel
theorem dX2_readName_44 : decode cX2_readName 44 = .ok (.getfield 34, 3) := by decide +kernel
theorem dX2_readName_47 : decode cX2_readName 47 = .ok (.if_icmp .ge 31, 3) := by decide +kernel
theorem dX2_readName_50 : decode cX2_readName 50 = .ok (.bipush 27, 2) := by decide +kernel
theorem dX2_readName_52 : decode cX2_readName 52 = .ok (.iload_n 1, 1) := by decide +kernel
theorem dX2_readName_53 : decode cX2_readName 53 = .ok (.imul, 1) := by decide +kernel
theorem dX2_readName_54 : decode cX2_readName 54 = .ok (.aload_n 0, 1) := by decide +kernel
theorem dX2_readName_55 : decode cX2_readName 55 = .ok (.getfield 51, 3) := by decide +kernel
theorem dX2_readName_58 : decode cX2_readName 58 = .ok (.aload_n 0, 1) := by decide +kernel
theorem dX2_readName_59 : decode cX2_readName 59 = .ok (.getfield 31, 3) := by decide +kernel
theorem dX2_readName_62 : decode cX2_readName 62 = .ok (.iload_n 2, 1) := by decide +kernel
theorem dX2_readName_63 : decode cX2_readName 63 = .ok (.iadd, 1) := by decide +kernel
theorem dX2_readName_64 : decode cX2_readName 64 = .ok (.iaload, 1) := by decide +kernel
theorem dX2_readName_65 : decode cX2_readName 65 = .ok (.iadd, 1) := by decide +kernel
theorem dX2_readName_66 : decode cX2_readName 66 = .ok (.bipush 97, 2) := by decide +kernel
theorem dX2_readName_68 : decode cX2_readName 68 = .ok (.isub, 1) := by decide +kernel
theorem dX2_readName_69 : decode cX2_readName 69 = .ok (.iconst 1, 1) := by decide +kernel
theorem dX2_readName_70 : decode cX2_readName 70 = .ok (.iadd, 1) := by decide +kernel
theorem dX2_readName_71 : decode cX2_readName 71 = .ok (.istore_n 1, 1) := by decide +kernel
theorem dX2_readName_72 : decode cX2_readName 72 = .ok (.iinc 2 1, 3) := by decide +kernel
theorem dX2_readName_75 : decode cX2_readName 75 = .ok (.goto (-44), 3) := by decide +kernel
theorem dX2_readName_78 : decode cX2_readName 78 = .ok (.iload_n 1, 1) := by decide +kernel
theorem dX2_readName_79 : decode cX2_readName 79 = .ok (.ireturn, 1) := by decide +kernel
theorem dX2_readWord_0 : decode cX2_readWord 0 = .ok (.aload_n 0, 1) := by decide +kernel
theorem dX2_readWord_1 : decode cX2_readWord 1 = .ok (.invokevirtual 61, 3) := by decide +kernel
theorem dX2_readWord_4 : decode cX2_readWord 4 = .ok (.invokestatic 177, 3) := by decide +kernel
theorem dX2_readWord_7 : decode cX2_readWord 7 = .ok (.ifCond .ne 12, 3) := by decide +kernel
theorem dX2_readWord_10 : decode cX2_readWord 10 = .ok (.aload_n 0, 1) := by decide +kernel
theorem dX2_readWord_11 : decode cX2_readWord 11 = .ok (.iconst 1, 1) := by decide +kernel
theorem dX2_readWord_12 : decode cX2_readWord 12 = .ok (.aload_n 0, 1) := by decide +kernel
theorem dX2_readWord_13 : decode cX2_readWord 13 = .ok (.getfield 28, 3) := by decide +kernel
theorem dX2_readWord_16 : decode cX2_readWord 16 = .ok (.invokevirtual 71, 3) := by decide +kernel
theorem dX2_readWord_19 : decode cX2_readWord 19 = .ok (.aload_n 0, 1) := by decide +kernel
theorem dX2_readWord_20 : decode cX2_readWord 20 = .ok (.aload_n 0, 1) := by decide +kernel
theorem dX2_readWord_21 : decode cX2_readWord 21 = .ok (.getfield 28, 3) := by decide +kernel
theorem dX2_readWord_24 : decode cX2_readWord 24 = .ok (.putfield 31, 3) := by decide +kernel
theorem dX2_readWord_27 : decode cX2_readWord 27 = .ok (.aload_n 0, 1) := by decide +kernel
theorem dX2_readWord_28 : decode cX2_readWord 28 = .ok (.getfield 18, 3) := by decide +kernel
theorem dX2_readWord_31 : decode cX2_readWord 31 = .ok (.ifCond .ne 42, 3) := by decide +kernel
theorem dX2_readWord_34 : decode cX2_readWord 34 = .ok (.aload_n 0, 1) := by decide +kernel
theorem dX2_readWord_35 : decode cX2_readWord 35 = .ok (.getfield 28, 3) := by decide +kernel
theorem dX2_readWord_38 : decode cX2_readWord 38 = .ok (.aload_n 0, 1) := by decide +kernel
theorem dX2_readWord_39 : decode cX2_readWord 39 = .ok (.getfield 25, 3) := by decide +kernel
theorem dX2_readWord_42 : decode cX2_readWord 42 = .ok (.if_icmp .ge 31, 3) := by decide +kernel
theorem dX2_readWord_45 : decode cX2_readWord 45 = .ok (.aload_n 0, 1) := by decide +kernel
theorem dX2_readWord_46 : decode cX2_readWord 46 = .ok (.getfield 51, 3) := by decide +kernel
theorem dX2_readWord_49 : decode cX2_readWord 49 = .ok (.aload_n 0, 1) := by decide +kernel
theorem dX2_readWord_50 : decode cX2_readWord 50 = .ok (.getfield 28, 3) := by decide +kernel
theorem dX2_readWord_53 : decode cX2_readWord 53 = .ok (.iaload, 1) := by decide +kernel
theorem dX2_readWord_54 : decode cX2_readWord 54 = .ok (.invokestatic 177, 3) := by decide +kernel
theorem dX2_readWord_57 : decode cX2_readWord 57 = .ok (.ifCond .eq 16, 3) := by decide +kernel
theorem dX2_readWord_60 : decode cX2_readWord 60 = .ok (.aload_n 0, 1) := by decide +kernel
theorem dX2_readWord_61 : decode cX2_readWord 61 = .ok (.dup, 1) := by decide +kernel
theorem dX2_readWord_62 : decode cX2_readWord 62 = .ok (.getfield 28, 3) := by decide +kernel
theorem dX2_readWord_65 : decode cX2_readWord 65 = .ok (.iconst 1, 1) := by decide +kernel
theorem dX2_readWord_66 : decode cX2_readWord 66 = .ok (.iadd, 1) := by decide +kernel
theorem dX2_readWord_67 : decode cX2_readWord 67 = .ok (.putfield 28, 3) := by decide +kernel
theorem dX2_readWord_70 : decode cX2_readWord 70 = .ok (.goto (-43), 3) := by decide +kernel
theorem dX2_readWord_73 : decode cX2_readWord 73 = .ok (.aload_n 0, 1) := by decide +kernel
theorem dX2_readWord_74 : decode cX2_readWord 74 = .ok (.aload_n 0, 1) := by decide +kernel
theorem dX2_readWord_75 : decode cX2_readWord 75 = .ok (.getfield 28, 3) := by decide +kernel
theorem dX2_readWord_78 : decode cX2_readWord 78 = .ok (.putfield 34, 3) := by decide +kernel
theorem dX2_readWord_81 : decode cX2_readWord 81 = .ok (.return_, 1) := by decide +kernel
theorem dX2_wordIs_0 : decode cX2_wordIs 0 = .ok (.aload_n 1, 1) := by decide +kernel
theorem dX2_wordIs_1 : decode cX2_wordIs 1 = .ok (.invokevirtual 222, 3) := by decide +kernel
theorem dX2_wordIs_4 : decode cX2_wordIs 4 = .ok (.aload_n 0, 1) := by decide +kernel
theorem dX2_wordIs_5 : decode cX2_wordIs 5 = .ok (.getfield 34, 3) := by decide +kernel
theorem dX2_wordIs_8 : decode cX2_wordIs 8 = .ok (.aload_n 0, 1) := by decide +kernel
theorem dX2_wordIs_9 : decode cX2_wordIs 9 = .ok (.getfield 31, 3) := by decide +kernel
theorem dX2_wordIs_12 : decode cX2_wordIs 12 = .ok (.isub, 1) := by decide +kernel
theorem dX2_wordIs_13 : decode cX2_wordIs 13 = .ok (.if_icmp .eq 5, 3) := by decide +kernel
theorem dX2_wordIs_16 : decode cX2_wordIs 16 = .ok (.iconst 0, 1) := by decide +kernel
theorem dX2_wordIs_17 : decode cX2_wordIs 17 = .ok (.ireturn, 1) := by decide +kernel
theorem dX2_wordIs_18 : decode cX2_wordIs 18 = .ok (.iconst 0, 1) := by decide +kernel
theorem dX2_wordIs_19 : decode cX2_wordIs 19 = .ok (.istore_n 2, 1) := by decide +kernel
theorem dX2_wordIs_20 : decode cX2_wordIs 20 = .ok (.iload_n 2, 1) := by decide +kernel
theorem dX2_wordIs_21 : decode cX2_wordIs 21 = .ok (.aload_n 1, 1) := by decide +kernel
theorem dX2_wordIs_22 : decode cX2_wordIs 22 = .ok (.invokevirtual 222, 3) := by decide +kernel
theorem dX2_wordIs_25 : decode cX2_wordIs 25 = .ok (.if_icmp .ge 30, 3) := by decide +kernel
theorem dX2_wordIs_28 : decode cX2_wordIs 28 = .ok (.aload_n 0, 1) := by decide +kernel
theorem dX2_wordIs_29 : decode cX2_wordIs 29 = .ok (.getfield 51, 3) := by decide +kernel
theorem dX2_wordIs_32 : decode cX2_wordIs 32 = .ok (.aload_n 0, 1) := by decide +kernel
theorem dX2_wordIs_33 : decode cX2_wordIs 33 = .ok (.getfield 31, 3) := by decide +kernel
theorem dX2_wordIs_36 : decode cX2_wordIs 36 = .ok (.iload_n 2, 1) := by decide +kernel
theorem dX2_wordIs_37 : decode cX2_wordIs 37 = .ok (.iadd, 1) := by decide +kernel
theorem dX2_wordIs_38 : decode cX2_wordIs 38 = .ok (.iaload, 1) := by decide +kernel
theorem dX2_wordIs_39 : decode cX2_wordIs 39 = .ok (.aload_n 1, 1) := by decide +kernel
theorem dX2_wordIs_40 : decode cX2_wordIs 40 = .ok (.iload_n 2, 1) := by decide +kernel
theorem dX2_wordIs_41 : decode cX2_wordIs 41 = .ok (.invokevirtual 226, 3) := by decide +kernel
theorem dX2_wordIs_44 : decode cX2_wordIs 44 = .ok (.if_icmp .eq 5, 3) := by decide +kernel
theorem dX2_wordIs_47 : decode cX2_wordIs 47 = .ok (.iconst 0, 1) := by decide +kernel
theorem dX2_wordIs_48 : decode cX2_wordIs 48 = .ok (.ireturn, 1) := by decide +kernel
theorem dX2_wordIs_49 : decode cX2_wordIs 49 = .ok (.iinc 2 1, 3) := by decide +kernel
theorem dX2_wordIs_52 : decode cX2_wordIs 52 = .ok (.goto (-32), 3) := by decide +kernel
theorem dX2_wordIs_55 : decode cX2_wordIs 55 = .ok (.iconst 1, 1) := by decide +kernel
theorem dX2_wordIs_56 : decode cX2_wordIs 56 = .ok (.ireturn, 1) := by decide +kernel
theorem dX2_readNumber_0 : decode cX2_readNumber 0 = .ok (.aload_n 0, 1) := by decide +kernel
theorem dX2_readNumber_1 : decode cX2_readNumber 1 = .ok (.invokevirtual 61, 3) := by decide +kernel
theorem dX2_readNumber_4 : decode cX2_readNumber 4 = .ok (.invokestatic 212, 3) := by decide +kernel
theorem dX2_readNumber_7 : decode cX2_readNumber 7 = .ok (.ifCond .ne 12, 3) := by decide +kernel
theorem dX2_readNumber_10 : decode cX2_readNumber 10 = .ok (.aload_n 0, 1) := by decide +kernel
theorem dX2_readNumber_11 : decode cX2_readNumber 11 = .ok (.iconst 1, 1) := by decide +kernel
theorem dX2_readNumber_12 : decode cX2_readNumber 12 = .ok (.aload_n 0, 1) := by decide +kernel
theorem dX2_readNumber_13 : decode cX2_readNumber 13 = .ok (.getfield 28, 3) := by decide +kernel
theorem dX2_readNumber_16 : decode cX2_readNumber 16 = .ok (.invokevirtual 71, 3) := by decide +kernel
theorem dX2_readNumber_19 : decode cX2_readNumber 19 = .ok (.aload_n 0, 1) := by decide +kernel
theorem dX2_readNumber_20 : decode cX2_readNumber 20 = .ok (.getfield 28, 3) := by decide +kernel
theorem dX2_readNumber_23 : decode cX2_readNumber 23 = .ok (.istore_n 3, 1) := by decide +kernel
theorem dX2_readNumber_24 : decode cX2_readNumber 24 = .ok (.iconst 0, 1) := by decide +kernel
theorem dX2_readNumber_25 : decode cX2_readNumber 25 = .ok (.istore 4, 2) := by decide +kernel
theorem dX2_readNumber_27 : decode cX2_readNumber 27 = .ok (.aload_n 0, 1) := by decide +kernel
theorem dX2_readNumber_28 : decode cX2_readNumber 28 = .ok (.getfield 18, 3) := by decide +kernel
theorem dX2_readNumber_31 : decode cX2_readNumber 31 = .ok (.ifCond .ne 74, 3) := by decide +kernel
theorem dX2_readNumber_34 : decode cX2_readNumber 34 = .ok (.aload_n 0, 1) := by decide +kernel
theorem dX2_readNumber_35 : decode cX2_readNumber 35 = .ok (.getfield 28, 3) := by decide +kernel
theorem dX2_readNumber_38 : decode cX2_readNumber 38 = .ok (.aload_n 0, 1) := by decide +kernel
theorem dX2_readNumber_39 : decode cX2_readNumber 39 = .ok (.getfield 25, 3) := by decide +kernel
theorem dX2_readNumber_42 : decode cX2_readNumber 42 = .ok (.if_icmp .ge 63, 3) := by decide +kernel
theorem dX2_readNumber_45 : decode cX2_readNumber 45 = .ok (.aload_n 0, 1) := by decide +kernel
theorem dX2_readNumber_46 : decode cX2_readNumber 46 = .ok (.getfield 51, 3) := by decide +kernel
theorem dX2_readNumber_49 : decode cX2_readNumber 49 = .ok (.aload_n 0, 1) := by decide +kernel
theorem dX2_readNumber_50 : decode cX2_readNumber 50 = .ok (.getfield 28, 3) := by decide +kernel
theorem dX2_readNumber_53 : decode cX2_readNumber 53 = .ok (.iaload, 1) := by decide +kernel
theorem dX2_readNumber_54 : decode cX2_readNumber 54 = .ok (.invokestatic 212, 3) := by decide +kernel
theorem dX2_readNumber_57 : decode cX2_readNumber 57 = .ok (.ifCond .eq 48, 3) := by decide +kernel
theorem dX2_readNumber_60 : decode cX2_readNumber 60 = .ok (.iload 4, 2) := by decide +kernel
theorem dX2_readNumber_62 : decode cX2_readNumber 62 = .ok (.ldc 230, 2) := by decide +kernel
theorem dX2_readNumber_64 : decode cX2_readNumber 64 = .ok (.if_icmp .ge 24, 3) := by decide +kernel
theorem dX2_readNumber_67 : decode cX2_readNumber 67 = .ok (.bipush 10, 2) := by decide +kernel
theorem dX2_readNumber_69 : decode cX2_readNumber 69 = .ok (.iload 4, 2) := by decide +kernel
theorem dX2_readNumber_71 : decode cX2_readNumber 71 = .ok (.imul, 1) := by decide +kernel
theorem dX2_readNumber_72 : decode cX2_readNumber 72 = .ok (.aload_n 0, 1) := by decide +kernel
theorem dX2_readNumber_73 : decode cX2_readNumber 73 = .ok (.getfield 51, 3) := by decide +kernel
theorem dX2_readNumber_76 : decode cX2_readNumber 76 = .ok (.aload_n 0, 1) := by decide +kernel
theorem dX2_readNumber_77 : decode cX2_readNumber 77 = .ok (.getfield 28, 3) := by decide +kernel
theorem dX2_readNumber_80 : decode cX2_readNumber 80 = .ok (.iaload, 1) := by decide +kernel
theorem dX2_readNumber_81 : decode cX2_readNumber 81 = .ok (.iadd, 1) := by decide +kernel
theorem dX2_readNumber_82 : decode cX2_readNumber 82 = .ok (.bipush 48, 2) := by decide +kernel
theorem dX2_readNumber_84 : decode cX2_readNumber 84 = .ok (.isub, 1) := by decide +kernel
theorem dX2_readNumber_85 : decode cX2_readNumber 85 = .ok (.goto 5, 3) := by decide +kernel
theorem dX2_readNumber_88 : decode cX2_readNumber 88 = .ok (.iload 4, 2) := by decide +kernel
theorem dX2_readNumber_90 : decode cX2_readNumber 90 = .ok (.istore 4, 2) := by decide +kernel
theorem dX2_readNumber_92 : decode cX2_readNumber 92 = .ok (.aload_n 0, 1) := by decide +kernel
theorem dX2_readNumber_93 : decode cX2_readNumber 93 = .ok (.dup, 1) := by decide +kernel
theorem dX2_readNumber_94 : decode cX2_readNumber 94 = .ok (.getfield 28, 3) := by decide +kernel
theorem dX2_readNumber_97 : decode cX2_readNumber 97 = .ok (.iconst 1, 1) := by decide +kernel
theorem dX2_readNumber_98 : decode cX2_readNumber 98 = .ok (.iadd, 1) := by decide +kernel
theorem dX2_readNumber_99 : decode cX2_readNumber 99 = .ok (.putfield 28, 3) := by decide +kernel
theorem dX2_readNumber_102 : decode cX2_readNumber 102 = .ok (.goto (-75), 3) := by decide +kernel
theorem dX2_readNumber_105 : decode cX2_readNumber 105 = .ok (.iload 4, 2) := by decide +kernel
theorem dX2_readNumber_107 : decode cX2_readNumber 107 = .ok (.iload_n 1, 1) := by decide +kernel
theorem dX2_readNumber_108 : decode cX2_readNumber 108 = .ok (.if_icmp .lt 9, 3) := by decide +kernel
theorem dX2_readNumber_111 : decode cX2_readNumber 111 = .ok (.iload 4, 2) := by decide +kernel
theorem dX2_readNumber_113 : decode cX2_readNumber 113 = .ok (.iload_n 2, 1) := by decide +kernel
theorem dX2_readNumber_114 : decode cX2_readNumber 114 = .ok (.if_icmp .le 9, 3) := by decide +kernel
theorem dX2_readNumber_117 : decode cX2_readNumber 117 = .ok (.aload_n 0, 1) := by decide +kernel
theorem dX2_readNumber_118 : decode cX2_readNumber 118 = .ok (.iconst 2, 1) := by decide +kernel
theorem dX2_readNumber_119 : decode cX2_readNumber 119 = .ok (.iload_n 3, 1) := by decide +kernel
theorem dX2_readNumber_120 : decode cX2_readNumber 120 = .ok (.invokevirtual 71, 3) := by decide +kernel
theorem dX2_readNumber_123 : decode cX2_readNumber 123 = .ok (.iload 4, 2) := by decide +kernel
theorem dX2_readNumber_125 : decode cX2_readNumber 125 = .ok (.ireturn, 1) := by decide +kernel
theorem dX2_readSign_0 : decode cX2_readSign 0 = .ok (.aload_n 0, 1) := by decide +kernel
theorem dX2_readSign_1 : decode cX2_readSign 1 = .ok (.invokevirtual 61, 3) := by decide +kernel
theorem dX2_readSign_4 : decode cX2_readSign 4 = .ok (.iload_n 1, 1) := by decide +kernel
theorem dX2_readSign_5 : decode cX2_readSign 5 = .ok (.if_icmp .eq 15, 3) := by decide +kernel
theorem dX2_readSign_8 : decode cX2_readSign 8 = .ok (.aload_n 0, 1) := by decide +kernel
theorem dX2_readSign_9 : decode cX2_readSign 9 = .ok (.iconst 1, 1) := by decide +kernel
theorem dX2_readSign_10 : decode cX2_readSign 10 = .ok (.aload_n 0, 1) := by decide +kernel
theorem dX2_readSign_11 : decode cX2_readSign 11 = .ok (.getfield 28, 3) := by decide +kernel
theorem dX2_readSign_14 : decode cX2_readSign 14 = .ok (.invokevirtual 71, 3) := by decide +kernel
theorem dX2_readSign_17 : decode cX2_readSign 17 = .ok (.goto 20, 3) := by decide +kernel
theorem dX2_readSign_20 : decode cX2_readSign 20 = .ok (.aload_n 0, 1) := by decide +kernel
theorem dX2_readSign_21 : decode cX2_readSign 21 = .ok (.getfield 18, 3) := by decide +kernel
theorem dX2_readSign_24 : decode cX2_readSign 24 = .ok (.ifCond .ne 13, 3) := by decide +kernel
theorem dX2_readSign_27 : decode cX2_readSign 27 = .ok (.aload_n 0, 1) := by decide +kernel
theorem dX2_readSign_28 : decode cX2_readSign 28 = .ok (.dup, 1) := by decide +kernel
theorem dX2_readSign_29 : decode cX2_readSign 29 = .ok (.getfield 28, 3) := by decide +kernel
theorem dX2_readSign_32 : decode cX2_readSign 32 = .ok (.iconst 1, 1) := by decide +kernel
theorem dX2_readSign_33 : decode cX2_readSign 33 = .ok (.iadd, 1) := by decide +kernel
theorem dX2_readSign_34 : decode cX2_readSign 34 = .ok (.putfield 28, 3) := by decide +kernel
theorem dX2_readSign_37 : decode cX2_readSign 37 = .ok (.return_, 1) := by decide +kernel
theorem dX2_peek_0 : decode cX2_peek 0 = .ok (.aload_n 0, 1) := by decide +kernel
theorem dX2_peek_1 : decode cX2_peek 1 = .ok (.getfield 18, 3) := by decide +kernel
theorem dX2_peek_4 : decode cX2_peek 4 = .ok (.ifCond .ne 41, 3) := by decide +kernel
theorem dX2_peek_7 : decode cX2_peek 7 = .ok (.aload_n 0, 1) := by decide +kernel
theorem dX2_peek_8 : decode cX2_peek 8 = .ok (.getfield 28, 3) := by decide +kernel
theorem dX2_peek_11 : decode cX2_peek 11 = .ok (.aload_n 0, 1) := by decide +kernel
theorem dX2_peek_12 : decode cX2_peek 12 = .ok (.getfield 25, 3) := by decide +kernel
theorem dX2_peek_15 : decode cX2_peek 15 = .ok (.if_icmp .ge 30, 3) := by decide +kernel
theorem dX2_peek_18 : decode cX2_peek 18 = .ok (.aload_n 0, 1) := by decide +kernel
theorem dX2_peek_19 : decode cX2_peek 19 = .ok (.getfield 51, 3) := by decide +kernel
theorem dX2_peek_22 : decode cX2_peek 22 = .ok (.aload_n 0, 1) := by decide +kernel
theorem dX2_peek_23 : decode cX2_peek 23 = .ok (.getfield 28, 3) := by decide +kernel
theorem dX2_peek_26 : decode cX2_peek 26 = .ok (.iaload, 1) := by decide +kernel
theorem dX2_peek_27 : decode cX2_peek 27 = .ok (.bipush 32, 2) := by decide +kernel
theorem dX2_peek_29 : decode cX2_peek 29 = .ok (.if_icmp .ne 16, 3) := by decide +kernel
theorem dX2_peek_32 : decode cX2_peek 32 = .ok (.aload_n 0, 1) := by decide +kernel
theorem dX2_peek_33 : decode cX2_peek 33 = .ok (.dup, 1) := by decide +kernel
theorem dX2_peek_34 : decode cX2_peek 34 = .ok (.getfield 28, 3) := by decide +kernel
theorem dX2_peek_37 : decode cX2_peek 37 = .ok (.iconst 1, 1) := by decide +kernel
theorem dX2_peek_38 : decode cX2_peek 38 = .ok (.iadd, 1) := by decide +kernel
theorem dX2_peek_39 : decode cX2_peek 39 = .ok (.putfield 28, 3) := by decide +kernel
theorem dX2_peek_42 : decode cX2_peek 42 = .ok (.goto (-42), 3) := by decide +kernel
theorem dX2_peek_45 : decode cX2_peek 45 = .ok (.aload_n 0, 1) := by decide +kernel
theorem dX2_peek_46 : decode cX2_peek 46 = .ok (.getfield 28, 3) := by decide +kernel
theorem dX2_peek_49 : decode cX2_peek 49 = .ok (.aload_n 0, 1) := by decide +kernel
theorem dX2_peek_50 : decode cX2_peek 50 = .ok (.getfield 25, 3) := by decide +kernel
theorem dX2_peek_53 : decode cX2_peek 53 = .ok (.if_icmp .ge 15, 3) := by decide +kernel
theorem dX2_peek_56 : decode cX2_peek 56 = .ok (.aload_n 0, 1) := by decide +kernel
theorem dX2_peek_57 : decode cX2_peek 57 = .ok (.getfield 51, 3) := by decide +kernel
theorem dX2_peek_60 : decode cX2_peek 60 = .ok (.aload_n 0, 1) := by decide +kernel
theorem dX2_peek_61 : decode cX2_peek 61 = .ok (.getfield 28, 3) := by decide +kernel
theorem dX2_peek_64 : decode cX2_peek 64 = .ok (.iaload, 1) := by decide +kernel
theorem dX2_peek_65 : decode cX2_peek 65 = .ok (.goto 4, 3) := by decide +kernel
theorem dX2_peek_68 : decode cX2_peek 68 = .ok (.iconst (-1), 1) := by decide +kernel
theorem dX2_peek_69 : decode cX2_peek 69 = .ok (.ireturn, 1) := by decide +kernel
theorem dX2_fail_0 : decode cX2_fail 0 = .ok (.aload_n 0, 1) := by decide +kernel
theorem dX2_fail_1 : decode cX2_fail 1 = .ok (.getfield 18, 3) := by decide +kernel
theorem dX2_fail_4 : decode cX2_fail 4 = .ok (.ifCond .ne 13, 3) := by decide +kernel
theorem dX2_fail_7 : decode cX2_fail 7 = .ok (.aload_n 0, 1) := by decide +kernel
theorem dX2_fail_8 : decode cX2_fail 8 = .ok (.iload_n 1, 1) := by decide +kernel
theorem dX2_fail_9 : decode cX2_fail 9 = .ok (.putfield 18, 3) := by decide +kernel
theorem dX2_fail_12 : decode cX2_fail 12 = .ok (.aload_n 0, 1) := by decide +kernel
theorem dX2_fail_13 : decode cX2_fail 13 = .ok (.iload_n 2, 1) := by decide +kernel
theorem dX2_fail_14 : decode cX2_fail 14 = .ok (.putfield 22, 3) := by decide +kernel
theorem dX2_fail_17 : decode cX2_fail 17 = .ok (.return_, 1) := by decide +kernel
theorem dX2_isLetter_0 : decode cX2_isLetter 0 = .ok (.iload_n 0, 1) := by decide +kernel
theorem dX2_isLetter_1 : decode cX2_isLetter 1 = .ok (.bipush 97, 2) := by decide +kernel
theorem dX2_isLetter_3 : decode cX2_isLetter 3 = .ok (.if_icmp .lt 13, 3) := by decide +kernel
theorem dX2_isLetter_6 : decode cX2_isLetter 6 = .ok (.iload_n 0, 1) := by decide +kernel
theorem dX2_isLetter_7 : decode cX2_isLetter 7 = .ok (.bipush 122, 2) := by decide +kernel
theorem dX2_isLetter_9 : decode cX2_isLetter 9 = .ok (.if_icmp .gt 7, 3) := by decide +kernel
theorem dX2_isLetter_12 : decode cX2_isLetter 12 = .ok (.iconst 1, 1) := by decide +kernel
theorem dX2_isLetter_13 : decode cX2_isLetter 13 = .ok (.goto 4, 3) := by decide +kernel
theorem dX2_isLetter_16 : decode cX2_isLetter 16 = .ok (.iconst 0, 1) := by decide +kernel
theorem dX2_isLetter_17 : decode cX2_isLetter 17 = .ok (.ireturn, 1) := by decide +kernel
theorem dX2_isDigit_0 : decode cX2_isDigit 0 = .ok (.iload_n 0, 1) := by decide +kernel
theorem dX2_isDigit_1 : decode cX2_isDigit 1 = .ok (.bipush 48, 2) := by decide +kernel
theorem dX2_isDigit_3 : decode cX2_isDigit 3 = .ok (.if_icmp .lt 13, 3) := by decide +kernel
theorem dX2_isDigit_6 : decode cX2_isDigit 6 = .ok (.iload_n 0, 1) := by decide +kernel
theorem dX2_isDigit_7 : decode cX2_isDigit 7 = .ok (.bipush 57, 2) := by decide +kernel
theorem dX2_isDigit_9 : decode cX2_isDigit 9 = .ok (.if_icmp .gt 7, 3) := by decide +kernel
theorem dX2_isDigit_12 : decode cX2_isDigit 12 = .ok (.iconst 1, 1) := by decide +kernel
theorem dX2_isDigit_13 : decode cX2_isDigit 13 = .ok (.goto 4, 3) := by decide +kernel
theorem dX2_isDigit_16 : decode cX2_isDigit 16 = .ok (.iconst 0, 1) := by decide +kernel
theorem dX2_isDigit_17 : decode cX2_isDigit 17 = .ok (.ireturn, 1) := by decide +kernel
theorem dX3_init_0 : decode cX3_init 0 = .ok (.aload_n 0, 1) := by decide +kernel
theorem dX3_init_1 : decode cX3_init 1 = .ok (.invokespecial 3, 3) := by decide +kernel
theorem dX3_init_4 : decode cX3_init 4 = .ok (.aload_n 0, 1) := by decide +kernel
theorem dX3_init_5 : decode cX3_init 5 = .ok (.iconst 0, 1) := by decide +kernel
theorem dX3_init_6 : decode cX3_init 6 = .ok (.putfield 9, 3) := by decide +kernel
theorem dX3_init_9 : decode cX3_init 9 = .ok (.aload_n 0, 1) := by decide +kernel
theorem dX3_init_10 : decode cX3_init 10 = .ok (.iconst 0, 1) := by decide +kernel
theorem dX3_init_11 : decode cX3_init 11 = .ok (.putfield 15, 3) := by decide +kernel
theorem dX3_init_14 : decode cX3_init 14 = .ok (.aload_n 0, 1) := by decide +kernel
theorem dX3_init_15 : decode cX3_init 15 = .ok (.iconst (-1), 1) := by decide +kernel
theorem dX3_init_16 : decode cX3_init 16 = .ok (.putfield 18, 3) := by decide +kernel
theorem dX3_init_19 : decode cX3_init 19 = .ok (.aload_n 0, 1) := by decide +kernel
theorem dX3_init_20 : decode cX3_init 20 = .ok (.iconst 0, 1) := by decide +kernel
theorem dX3_init_21 : decode cX3_init 21 = .ok (.putfield 21, 3) := by decide +kernel
theorem dX3_init_24 : decode cX3_init 24 = .ok (.aload_n 0, 1) := by decide +kernel
theorem dX3_init_25 : decode cX3_init 25 = .ok (.iconst (-1), 1) := by decide +kernel
theorem dX3_init_26 : decode cX3_init 26 = .ok (.putfield 24, 3) := by decide +kernel
theorem dX3_init_29 : decode cX3_init 29 = .ok (.return_, 1) := by decide +kernel
theorem dX3_copyFrom_0 : decode cX3_copyFrom 0 = .ok (.aload_n 0, 1) := by decide +kernel
theorem dX3_copyFrom_1 : decode cX3_copyFrom 1 = .ok (.aload_n 1, 1) := by decide +kernel
theorem dX3_copyFrom_2 : decode cX3_copyFrom 2 = .ok (.getfield 9, 3) := by decide +kernel
theorem dX3_copyFrom_5 : decode cX3_copyFrom 5 = .ok (.putfield 9, 3) := by decide +kernel
theorem dX3_copyFrom_8 : decode cX3_copyFrom 8 = .ok (.aload_n 0, 1) := by decide +kernel
theorem dX3_copyFrom_9 : decode cX3_copyFrom 9 = .ok (.aload_n 1, 1) := by decide +kernel
theorem dX3_copyFrom_10 : decode cX3_copyFrom 10 = .ok (.getfield 15, 3) := by decide +kernel
theorem dX3_copyFrom_13 : decode cX3_copyFrom 13 = .ok (.putfield 15, 3) := by decide +kernel
theorem dX3_copyFrom_16 : decode cX3_copyFrom 16 = .ok (.aload_n 0, 1) := by decide +kernel
theorem dX3_copyFrom_17 : decode cX3_copyFrom 17 = .ok (.aload_n 1, 1) := by decide +kernel
theorem dX3_copyFrom_18 : decode cX3_copyFrom 18 = .ok (.getfield 18, 3) := by decide +kernel
theorem dX3_copyFrom_21 : decode cX3_copyFrom 21 = .ok (.putfield 18, 3) := by decide +kernel
theorem dX3_copyFrom_24 : decode cX3_copyFrom 24 = .ok (.aload_n 0, 1) := by decide +kernel
theorem dX3_copyFrom_25 : decode cX3_copyFrom 25 = .ok (.aload_n 1, 1) := by decide +kernel
theorem dX3_copyFrom_26 : decode cX3_copyFrom 26 = .ok (.getfield 21, 3) := by decide +kernel
theorem dX3_copyFrom_29 : decode cX3_copyFrom 29 = .ok (.putfield 21, 3) := by decide +kernel
theorem dX3_copyFrom_32 : decode cX3_copyFrom 32 = .ok (.aload_n 0, 1) := by decide +kernel
theorem dX3_copyFrom_33 : decode cX3_copyFrom 33 = .ok (.aload_n 1, 1) := by decide +kernel
theorem dX3_copyFrom_34 : decode cX3_copyFrom 34 = .ok (.getfield 24, 3) := by decide +kernel
theorem dX3_copyFrom_37 : decode cX3_copyFrom 37 = .ok (.putfield 24, 3) := by decide +kernel
theorem dX3_copyFrom_40 : decode cX3_copyFrom 40 = .ok (.return_, 1) := by decide +kernel
theorem dX4_init_0 : decode cX4_init 0 = .ok (.aload_n 0, 1) := by decide +kernel
theorem dX4_init_1 : decode cX4_init 1 = .ok (.invokespecial 3, 3) := by decide +kernel
theorem dX4_init_4 : decode cX4_init 4 = .ok (.aload_n 0, 1) := by decide +kernel
theorem dX4_init_5 : decode cX4_init 5 = .ok (.iconst 0, 1) := by decide +kernel
theorem dX4_init_6 : decode cX4_init 6 = .ok (.putfield 9, 3) := by decide +kernel
theorem dX4_init_9 : decode cX4_init 9 = .ok (.aload_n 0, 1) := by decide +kernel
theorem dX4_init_10 : decode cX4_init 10 = .ok (.iconst 0, 1) := by decide +kernel
theorem dX4_init_11 : decode cX4_init 11 = .ok (.putfield 15, 3) := by decide +kernel
theorem dX4_init_14 : decode cX4_init 14 = .ok (.aload_n 0, 1) := by decide +kernel
theorem dX4_init_15 : decode cX4_init 15 = .ok (.iconst 0, 1) := by decide +kernel
theorem dX4_init_16 : decode cX4_init 16 = .ok (.putfield 19, 3) := by decide +kernel
theorem dX4_init_19 : decode cX4_init 19 = .ok (.aload_n 0, 1) := by decide +kernel
theorem dX4_init_20 : decode cX4_init 20 = .ok (.bipush 6, 2) := by decide +kernel
theorem dX4_init_22 : decode cX4_init 22 = .ok (.newarray .int, 2) := by decide +kernel
theorem dX4_init_24 : decode cX4_init 24 = .ok (.putfield 22, 3) := by decide +kernel
theorem dX4_init_27 : decode cX4_init 27 = .ok (.aload_n 0, 1) := by decide +kernel
theorem dX4_init_28 : decode cX4_init 28 = .ok (.bipush 6, 2) := by decide +kernel
theorem dX4_init_30 : decode cX4_init 30 = .ok (.newarray .int, 2) := by decide +kernel
theorem dX4_init_32 : decode cX4_init 32 = .ok (.putfield 26, 3) := by decide +kernel
theorem dX4_init_35 : decode cX4_init 35 = .ok (.return_, 1) := by decide +kernel
theorem dX4_copyFrom_0 : decode cX4_copyFrom 0 = .ok (.aload_n 0, 1) := by decide +kernel
theorem dX4_copyFrom_1 : decode cX4_copyFrom 1 = .ok (.aload_n 1, 1) := by decide +kernel
theorem dX4_copyFrom_2 : decode cX4_copyFrom 2 = .ok (.getfield 9, 3) := by decide +kernel
theorem dX4_copyFrom_5 : decode cX4_copyFrom 5 = .ok (.putfield 9, 3) := by decide +kernel
theorem dX4_copyFrom_8 : decode cX4_copyFrom 8 = .ok (.aload_n 0, 1) := by decide +kernel
theorem dX4_copyFrom_9 : decode cX4_copyFrom 9 = .ok (.aload_n 1, 1) := by decide +kernel
theorem dX4_copyFrom_10 : decode cX4_copyFrom 10 = .ok (.getfield 15, 3) := by decide +kernel
theorem dX4_copyFrom_13 : decode cX4_copyFrom 13 = .ok (.putfield 15, 3) := by decide +kernel
theorem dX4_copyFrom_16 : decode cX4_copyFrom 16 = .ok (.aload_n 0, 1) := by decide +kernel
theorem dX4_copyFrom_17 : decode cX4_copyFrom 17 = .ok (.aload_n 1, 1) := by decide +kernel
theorem dX4_copyFrom_18 : decode cX4_copyFrom 18 = .ok (.getfield 19, 3) := by decide +kernel
theorem dX4_copyFrom_21 : decode cX4_copyFrom 21 = .ok (.putfield 19, 3) := by decide +kernel
theorem dX4_copyFrom_24 : decode cX4_copyFrom 24 = .ok (.aload_n 1, 1) := by decide +kernel
theorem dX4_copyFrom_25 : decode cX4_copyFrom 25 = .ok (.getfield 22, 3) := by decide +kernel
theorem dX4_copyFrom_28 : decode cX4_copyFrom 28 = .ok (.iconst 0, 1) := by decide +kernel
theorem dX4_copyFrom_29 : decode cX4_copyFrom 29 = .ok (.aload_n 0, 1) := by decide +kernel
theorem dX4_copyFrom_30 : decode cX4_copyFrom 30 = .ok (.getfield 22, 3) := by decide +kernel
theorem dX4_copyFrom_33 : decode cX4_copyFrom 33 = .ok (.iconst 0, 1) := by decide +kernel
theorem dX4_copyFrom_34 : decode cX4_copyFrom 34 = .ok (.bipush 6, 2) := by decide +kernel
theorem dX4_copyFrom_36 : decode cX4_copyFrom 36 = .ok (.invokestatic 29, 3) := by decide +kernel
theorem dX4_copyFrom_39 : decode cX4_copyFrom 39 = .ok (.aload_n 1, 1) := by decide +kernel
theorem dX4_copyFrom_40 : decode cX4_copyFrom 40 = .ok (.getfield 26, 3) := by decide +kernel
theorem dX4_copyFrom_43 : decode cX4_copyFrom 43 = .ok (.iconst 0, 1) := by decide +kernel
theorem dX4_copyFrom_44 : decode cX4_copyFrom 44 = .ok (.aload_n 0, 1) := by decide +kernel
theorem dX4_copyFrom_45 : decode cX4_copyFrom 45 = .ok (.getfield 26, 3) := by decide +kernel
theorem dX4_copyFrom_48 : decode cX4_copyFrom 48 = .ok (.iconst 0, 1) := by decide +kernel
theorem dX4_copyFrom_49 : decode cX4_copyFrom 49 = .ok (.bipush 6, 2) := by decide +kernel
theorem dX4_copyFrom_51 : decode cX4_copyFrom 51 = .ok (.invokestatic 29, 3) := by decide +kernel
theorem dX4_copyFrom_54 : decode cX4_copyFrom 54 = .ok (.return_, 1) := by decide +kernel
theorem dX5_init_0 : decode cX5_init 0 = .ok (.aload_n 0, 1) := by decide +kernel
theorem dX5_init_1 : decode cX5_init 1 = .ok (.invokespecial 3, 3) := by decide +kernel
theorem dX5_init_4 : decode cX5_init 4 = .ok (.aload_n 0, 1) := by decide +kernel
theorem dX5_init_5 : decode cX5_init 5 = .ok (.iconst 1, 1) := by decide +kernel
theorem dX5_init_6 : decode cX5_init 6 = .ok (.putfield 9, 3) := by decide +kernel
theorem dX5_init_9 : decode cX5_init 9 = .ok (.aload_n 0, 1) := by decide +kernel
theorem dX5_init_10 : decode cX5_init 10 = .ok (.iconst 0, 1) := by decide +kernel
theorem dX5_init_11 : decode cX5_init 11 = .ok (.putfield 15, 3) := by decide +kernel
theorem dX5_init_14 : decode cX5_init 14 = .ok (.aload_n 0, 1) := by decide +kernel
theorem dX5_init_15 : decode cX5_init 15 = .ok (.iconst 0, 1) := by decide +kernel
theorem dX5_init_16 : decode cX5_init 16 = .ok (.putfield 18, 3) := by decide +kernel
theorem dX5_init_19 : decode cX5_init 19 = .ok (.aload_n 0, 1) := by decide +kernel
theorem dX5_init_20 : decode cX5_init 20 = .ok (.iconst 0, 1) := by decide +kernel
theorem dX5_init_21 : decode cX5_init 21 = .ok (.putfield 21, 3) := by decide +kernel
theorem dX5_init_24 : decode cX5_init 24 = .ok (.aload_n 0, 1) := by decide +kernel
theorem dX5_init_25 : decode cX5_init 25 = .ok (.iconst 0, 1) := by decide +kernel
theorem dX5_init_26 : decode cX5_init 26 = .ok (.putfield 24, 3) := by decide +kernel
theorem dX5_init_29 : decode cX5_init 29 = .ok (.aload_n 0, 1) := by decide +kernel
theorem dX5_init_30 : decode cX5_init 30 = .ok (.iconst 0, 1) := by decide +kernel
theorem dX5_init_31 : decode cX5_init 31 = .ok (.putfield 27, 3) := by decide +kernel
theorem dX5_init_34 : decode cX5_init 34 = .ok (.aload_n 0, 1) := by decide +kernel
theorem dX5_init_35 : decode cX5_init 35 = .ok (.bipush 16, 2) := by decide +kernel
theorem dX5_init_37 : decode cX5_init 37 = .ok (.newarray .int, 2) := by decide +kernel
theorem dX5_init_39 : decode cX5_init 39 = .ok (.putfield 30, 3) := by decide +kernel
theorem dX5_init_42 : decode cX5_init 42 = .ok (.aload_n 0, 1) := by decide +kernel
theorem dX5_init_43 : decode cX5_init 43 = .ok (.bipush 16, 2) := by decide +kernel
theorem dX5_init_45 : decode cX5_init 45 = .ok (.newarray .int, 2) := by decide +kernel
theorem dX5_init_47 : decode cX5_init 47 = .ok (.putfield 34, 3) := by decide +kernel
theorem dX5_init_50 : decode cX5_init 50 = .ok (.aload_n 0, 1) := by decide +kernel
theorem dX5_init_51 : decode cX5_init 51 = .ok (.bipush 12, 2) := by decide +kernel
theorem dX5_init_53 : decode cX5_init 53 = .ok (.anewarray 37, 3) := by decide +kernel
theorem dX5_init_56 : decode cX5_init 56 = .ok (.putfield 39, 3) := by decide +kernel
theorem dX5_init_59 : decode cX5_init 59 = .ok (.aload_n 0, 1) := by decide +kernel
theorem dX5_init_60 : decode cX5_init 60 = .ok (.iconst 4, 1) := by decide +kernel
theorem dX5_init_61 : decode cX5_init 61 = .ok (.anewarray 43, 3) := by decide +kernel
theorem dX5_init_64 : decode cX5_init 64 = .ok (.putfield 45, 3) := by decide +kernel
theorem dX5_init_67 : decode cX5_init 67 = .ok (.aload_n 0, 1) := by decide +kernel
theorem dX5_init_68 : decode cX5_init 68 = .ok (.bipush 24, 2) := by decide +kernel
theorem dX5_init_70 : decode cX5_init 70 = .ok (.anewarray 49, 3) := by decide +kernel
theorem dX5_init_73 : decode cX5_init 73 = .ok (.putfield 51, 3) := by decide +kernel
theorem dX5_init_76 : decode cX5_init 76 = .ok (.iconst 0, 1) := by decide +kernel
theorem dX5_init_77 : decode cX5_init 77 = .ok (.istore_n 1, 1) := by decide +kernel
theorem dX5_init_78 : decode cX5_init 78 = .ok (.iload_n 1, 1) := by decide +kernel
theorem dX5_init_79 : decode cX5_init 79 = .ok (.bipush 12, 2) := by decide +kernel
theorem dX5_init_81 : decode cX5_init 81 = .ok (.if_icmp .ge 22, 3) := by decide +kernel
theorem dX5_init_84 : decode cX5_init 84 = .ok (.aload_n 0, 1) := by decide +kernel
theorem dX5_init_85 : decode cX5_init 85 = .ok (.getfield 39, 3) := by decide +kernel
theorem dX5_init_88 : decode cX5_init 88 = .ok (.iload_n 1, 1) := by decide +kernel
theorem dX5_init_89 : decode cX5_init 89 = .ok (.new 37, 3) := by decide +kernel
theorem dX5_init_92 : decode cX5_init 92 = .ok (.dup, 1) := by decide +kernel
theorem dX5_init_93 : decode cX5_init 93 = .ok (.invokespecial 55, 3) := by decide +kernel
theorem dX5_init_96 : decode cX5_init 96 = .ok (.aastore, 1) := by decide +kernel
theorem dX5_init_97 : decode cX5_init 97 = .ok (.iinc 1 1, 3) := by decide +kernel
theorem dX5_init_100 : decode cX5_init 100 = .ok (.goto (-22), 3) := by decide +kernel
theorem dX5_init_103 : decode cX5_init 103 = .ok (.iconst 0, 1) := by decide +kernel
theorem dX5_init_104 : decode cX5_init 104 = .ok (.istore_n 1, 1) := by decide +kernel
theorem dX5_init_105 : decode cX5_init 105 = .ok (.iload_n 1, 1) := by decide +kernel
theorem dX5_init_106 : decode cX5_init 106 = .ok (.iconst 4, 1) := by decide +kernel
theorem dX5_init_107 : decode cX5_init 107 = .ok (.if_icmp .ge 22, 3) := by decide +kernel
theorem dX5_init_110 : decode cX5_init 110 = .ok (.aload_n 0, 1) := by decide +kernel
theorem dX5_init_111 : decode cX5_init 111 = .ok (.getfield 45, 3) := by decide +kernel
theorem dX5_init_114 : decode cX5_init 114 = .ok (.iload_n 1, 1) := by decide +kernel
theorem dX5_init_115 : decode cX5_init 115 = .ok (.new 43, 3) := by decide +kernel
theorem dX5_init_118 : decode cX5_init 118 = .ok (.dup, 1) := by decide +kernel
theorem dX5_init_119 : decode cX5_init 119 = .ok (.invokespecial 56, 3) := by decide +kernel
theorem dX5_init_122 : decode cX5_init 122 = .ok (.aastore, 1) := by decide +kernel
theorem dX5_init_123 : decode cX5_init 123 = .ok (.iinc 1 1, 3) := by decide +kernel
theorem dX5_init_126 : decode cX5_init 126 = .ok (.goto (-21), 3) := by decide +kernel
theorem dX5_init_129 : decode cX5_init 129 = .ok (.iconst 0, 1) := by decide +kernel
theorem dX5_init_130 : decode cX5_init 130 = .ok (.istore_n 1, 1) := by decide +kernel
theorem dX5_init_131 : decode cX5_init 131 = .ok (.iload_n 1, 1) := by decide +kernel
theorem dX5_init_132 : decode cX5_init 132 = .ok (.bipush 24, 2) := by decide +kernel
theorem dX5_init_134 : decode cX5_init 134 = .ok (.if_icmp .ge 22, 3) := by decide +kernel
theorem dX5_init_137 : decode cX5_init 137 = .ok (.aload_n 0, 1) := by decide +kernel
theorem dX5_init_138 : decode cX5_init 138 = .ok (.getfield 51, 3) := by decide +kernel
theorem dX5_init_141 : decode cX5_init 141 = .ok (.iload_n 1, 1) := by decide +kernel
theorem dX5_init_142 : decode cX5_init 142 = .ok (.new 49, 3) := by decide +kernel
theorem dX5_init_145 : decode cX5_init 145 = .ok (.dup, 1) := by decide +kernel
theorem dX5_init_146 : decode cX5_init 146 = .ok (.invokespecial 57, 3) := by decide +kernel
theorem dX5_init_149 : decode cX5_init 149 = .ok (.aastore, 1) := by decide +kernel
theorem dX5_init_150 : decode cX5_init 150 = .ok (.iinc 1 1, 3) := by decide +kernel
theorem dX5_init_153 : decode cX5_init 153 = .ok (.goto (-22), 3) := by decide +kernel
theorem dX5_init_156 : decode cX5_init 156 = .ok (.return_, 1) := by decide +kernel
theorem dX5_forget_0 : decode cX5_forget 0 = .ok (.aload_n 0, 1) := by decide +kernel
theorem dX5_forget_1 : decode cX5_forget 1 = .ok (.iconst 1, 1) := by decide +kernel
theorem dX5_forget_2 : decode cX5_forget 2 = .ok (.putfield 9, 3) := by decide +kernel
theorem dX5_forget_5 : decode cX5_forget 5 = .ok (.aload_n 0, 1) := by decide +kernel
theorem dX5_forget_6 : decode cX5_forget 6 = .ok (.iconst 0, 1) := by decide +kernel
theorem dX5_forget_7 : decode cX5_forget 7 = .ok (.putfield 15, 3) := by decide +kernel
theorem dX5_forget_10 : decode cX5_forget 10 = .ok (.aload_n 0, 1) := by decide +kernel
theorem dX5_forget_11 : decode cX5_forget 11 = .ok (.iconst 0, 1) := by decide +kernel
theorem dX5_forget_12 : decode cX5_forget 12 = .ok (.putfield 18, 3) := by decide +kernel
theorem dX5_forget_15 : decode cX5_forget 15 = .ok (.aload_n 0, 1) := by decide +kernel
theorem dX5_forget_16 : decode cX5_forget 16 = .ok (.iconst 0, 1) := by decide +kernel
theorem dX5_forget_17 : decode cX5_forget 17 = .ok (.putfield 21, 3) := by decide +kernel
theorem dX5_forget_20 : decode cX5_forget 20 = .ok (.aload_n 0, 1) := by decide +kernel
theorem dX5_forget_21 : decode cX5_forget 21 = .ok (.iconst 0, 1) := by decide +kernel
theorem dX5_forget_22 : decode cX5_forget 22 = .ok (.putfield 24, 3) := by decide +kernel
theorem dX5_forget_25 : decode cX5_forget 25 = .ok (.aload_n 0, 1) := by decide +kernel
theorem dX5_forget_26 : decode cX5_forget 26 = .ok (.iconst 0, 1) := by decide +kernel
theorem dX5_forget_27 : decode cX5_forget 27 = .ok (.putfield 27, 3) := by decide +kernel
theorem dX5_forget_30 : decode cX5_forget 30 = .ok (.return_, 1) := by decide +kernel
theorem dX5_copyFrom_0 : decode cX5_copyFrom 0 = .ok (.aload_n 0, 1) := by decide +kernel
theorem dX5_copyFrom_1 : decode cX5_copyFrom 1 = .ok (.aload_n 1, 1) := by decide +kernel
theorem dX5_copyFrom_2 : decode cX5_copyFrom 2 = .ok (.getfield 9, 3) := by decide +kernel
theorem dX5_copyFrom_5 : decode cX5_copyFrom 5 = .ok (.putfield 9, 3) := by decide +kernel
theorem dX5_copyFrom_8 : decode cX5_copyFrom 8 = .ok (.aload_n 0, 1) := by decide +kernel
theorem dX5_copyFrom_9 : decode cX5_copyFrom 9 = .ok (.aload_n 1, 1) := by decide +kernel
theorem dX5_copyFrom_10 : decode cX5_copyFrom 10 = .ok (.getfield 15, 3) := by decide +kernel
theorem dX5_copyFrom_13 : decode cX5_copyFrom 13 = .ok (.putfield 15, 3) := by decide +kernel
theorem dX5_copyFrom_16 : decode cX5_copyFrom 16 = .ok (.aload_n 0, 1) := by decide +kernel
theorem dX5_copyFrom_17 : decode cX5_copyFrom 17 = .ok (.aload_n 1, 1) := by decide +kernel
theorem dX5_copyFrom_18 : decode cX5_copyFrom 18 = .ok (.getfield 18, 3) := by decide +kernel
theorem dX5_copyFrom_21 : decode cX5_copyFrom 21 = .ok (.putfield 18, 3) := by decide +kernel
theorem dX5_copyFrom_24 : decode cX5_copyFrom 24 = .ok (.aload_n 0, 1) := by decide +kernel
theorem dX5_copyFrom_25 : decode cX5_copyFrom 25 = .ok (.aload_n 1, 1) := by decide +kernel
theorem dX5_copyFrom_26 : decode cX5_copyFrom 26 = .ok (.getfield 21, 3) := by decide +kernel
theorem dX5_copyFrom_29 : decode cX5_copyFrom 29 = .ok (.putfield 21, 3) := by decide +kernel
theorem dX5_copyFrom_32 : decode cX5_copyFrom 32 = .ok (.aload_n 0, 1) := by decide +kernel
theorem dX5_copyFrom_33 : decode cX5_copyFrom 33 = .ok (.aload_n 1, 1) := by decide +kernel
theorem dX5_copyFrom_34 : decode cX5_copyFrom 34 = .ok (.getfield 24, 3) := by decide +kernel
theorem dX5_copyFrom_37 : decode cX5_copyFrom 37 = .ok (.putfield 24, 3) := by decide +kernel
theorem dX5_copyFrom_40 : decode cX5_copyFrom 40 = .ok (.aload_n 0, 1) := by decide +kernel
theorem dX5_copyFrom_41 : decode cX5_copyFrom 41 = .ok (.aload_n 1, 1) := by decide +kernel
theorem dX5_copyFrom_42 : decode cX5_copyFrom 42 = .ok (.getfield 27, 3) := by decide +kernel
theorem dX5_copyFrom_45 : decode cX5_copyFrom 45 = .ok (.putfield 27, 3) := by decide +kernel
theorem dX5_copyFrom_48 : decode cX5_copyFrom 48 = .ok (.aload_n 1, 1) := by decide +kernel
theorem dX5_copyFrom_49 : decode cX5_copyFrom 49 = .ok (.getfield 30, 3) := by decide +kernel
theorem dX5_copyFrom_52 : decode cX5_copyFrom 52 = .ok (.iconst 0, 1) := by decide +kernel
theorem dX5_copyFrom_53 : decode cX5_copyFrom 53 = .ok (.aload_n 0, 1) := by decide +kernel
theorem dX5_copyFrom_54 : decode cX5_copyFrom 54 = .ok (.getfield 30, 3) := by decide +kernel
theorem dX5_copyFrom_57 : decode cX5_copyFrom 57 = .ok (.iconst 0, 1) := by decide +kernel
theorem dX5_copyFrom_58 : decode cX5_copyFrom 58 = .ok (.bipush 16, 2) := by decide +kernel
theorem dX5_copyFrom_60 : decode cX5_copyFrom 60 = .ok (.invokestatic 58, 3) := by decide +kernel
theorem dX5_copyFrom_63 : decode cX5_copyFrom 63 = .ok (.aload_n 1, 1) := by decide +kernel
theorem dX5_copyFrom_64 : decode cX5_copyFrom 64 = .ok (.getfield 34, 3) := by decide +kernel
theorem dX5_copyFrom_67 : decode cX5_copyFrom 67 = .ok (.iconst 0, 1) := by decide +kernel
theorem dX5_copyFrom_68 : decode cX5_copyFrom 68 = .ok (.aload_n 0, 1) := by decide +kernel
theorem dX5_copyFrom_69 : decode cX5_copyFrom 69 = .ok (.getfield 34, 3) := by decide +kernel
theorem dX5_copyFrom_72 : decode cX5_copyFrom 72 = .ok (.iconst 0, 1) := by decide +kernel
theorem dX5_copyFrom_73 : decode cX5_copyFrom 73 = .ok (.bipush 16, 2) := by decide +kernel
theorem dX5_copyFrom_75 : decode cX5_copyFrom 75 = .ok (.invokestatic 58, 3) := by decide +kernel
theorem dX5_copyFrom_78 : decode cX5_copyFrom 78 = .ok (.iconst 0, 1) := by decide +kernel
theorem dX5_copyFrom_79 : decode cX5_copyFrom 79 = .ok (.istore_n 2, 1) := by decide +kernel
theorem dX5_copyFrom_80 : decode cX5_copyFrom 80 = .ok (.iload_n 2, 1) := by decide +kernel
theorem dX5_copyFrom_81 : decode cX5_copyFrom 81 = .ok (.aload_n 0, 1) := by decide +kernel
theorem dX5_copyFrom_82 : decode cX5_copyFrom 82 = .ok (.getfield 21, 3) := by decide +kernel
theorem dX5_copyFrom_85 : decode cX5_copyFrom 85 = .ok (.if_icmp .ge 24, 3) := by decide +kernel
theorem dX5_copyFrom_88 : decode cX5_copyFrom 88 = .ok (.aload_n 0, 1) := by decide +kernel
theorem dX5_copyFrom_89 : decode cX5_copyFrom 89 = .ok (.getfield 39, 3) := by decide +kernel
theorem dX5_copyFrom_92 : decode cX5_copyFrom 92 = .ok (.iload_n 2, 1) := by decide +kernel
theorem dX5_copyFrom_93 : decode cX5_copyFrom 93 = .ok (.aaload, 1) := by decide +kernel
theorem dX5_copyFrom_94 : decode cX5_copyFrom 94 = .ok (.aload_n 1, 1) := by decide +kernel
theorem dX5_copyFrom_95 : decode cX5_copyFrom 95 = .ok (.getfield 39, 3) := by decide +kernel
theorem dX5_copyFrom_98 : decode cX5_copyFrom 98 = .ok (.iload_n 2, 1) := by decide +kernel
theorem dX5_copyFrom_99 : decode cX5_copyFrom 99 = .ok (.aaload, 1) := by decide +kernel
theorem dX5_copyFrom_100 : decode cX5_copyFrom 100 = .ok (.invokevirtual 64, 3) := by decide +kernel
theorem dX5_copyFrom_103 : decode cX5_copyFrom 103 = .ok (.iinc 2 1, 3) := by decide +kernel
theorem dX5_copyFrom_106 : decode cX5_copyFrom 106 = .ok (.goto (-26), 3) := by decide +kernel
theorem dX5_copyFrom_109 : decode cX5_copyFrom 109 = .ok (.iconst 0, 1) := by decide +kernel
theorem dX5_copyFrom_110 : decode cX5_copyFrom 110 = .ok (.istore_n 2, 1) := by decide +kernel
theorem dX5_copyFrom_111 : decode cX5_copyFrom 111 = .ok (.iload_n 2, 1) := by decide +kernel
theorem dX5_copyFrom_112 : decode cX5_copyFrom 112 = .ok (.aload_n 0, 1) := by decide +kernel
theorem dX5_copyFrom_113 : decode cX5_copyFrom 113 = .ok (.getfield 24, 3) := by decide +kernel
theorem dX5_copyFrom_116 : decode cX5_copyFrom 116 = .ok (.if_icmp .ge 24, 3) := by decide +kernel
theorem dX5_copyFrom_119 : decode cX5_copyFrom 119 = .ok (.aload_n 0, 1) := by decide +kernel
theorem dX5_copyFrom_120 : decode cX5_copyFrom 120 = .ok (.getfield 45, 3) := by decide +kernel
theorem dX5_copyFrom_123 : decode cX5_copyFrom 123 = .ok (.iload_n 2, 1) := by decide +kernel
theorem dX5_copyFrom_124 : decode cX5_copyFrom 124 = .ok (.aaload, 1) := by decide +kernel
theorem dX5_copyFrom_125 : decode cX5_copyFrom 125 = .ok (.aload_n 1, 1) := by decide +kernel
theorem dX5_copyFrom_126 : decode cX5_copyFrom 126 = .ok (.getfield 45, 3) := by decide +kernel
theorem dX5_copyFrom_129 : decode cX5_copyFrom 129 = .ok (.iload_n 2, 1) := by decide +kernel
theorem dX5_copyFrom_130 : decode cX5_copyFrom 130 = .ok (.aaload, 1) := by decide +kernel
theorem dX5_copyFrom_131 : decode cX5_copyFrom 131 = .ok (.invokevirtual 68, 3) := by decide +kernel
theorem dX5_copyFrom_134 : decode cX5_copyFrom 134 = .ok (.iinc 2 1, 3) := by decide +kernel
theorem dX5_copyFrom_137 : decode cX5_copyFrom 137 = .ok (.goto (-26), 3) := by decide +kernel
theorem dX5_copyFrom_140 : decode cX5_copyFrom 140 = .ok (.iconst 0, 1) := by decide +kernel
theorem dX5_copyFrom_141 : decode cX5_copyFrom 141 = .ok (.istore_n 2, 1) := by decide +kernel
theorem dX5_copyFrom_142 : decode cX5_copyFrom 142 = .ok (.iload_n 2, 1) := by decide +kernel
theorem dX5_copyFrom_143 : decode cX5_copyFrom 143 = .ok (.aload_n 0, 1) := by decide +kernel
theorem dX5_copyFrom_144 : decode cX5_copyFrom 144 = .ok (.getfield 27, 3) := by decide +kernel
theorem dX5_copyFrom_147 : decode cX5_copyFrom 147 = .ok (.if_icmp .ge 24, 3) := by decide +kernel
theorem dX5_copyFrom_150 : decode cX5_copyFrom 150 = .ok (.aload_n 0, 1) := by decide +kernel
theorem dX5_copyFrom_151 : decode cX5_copyFrom 151 = .ok (.getfield 51, 3) := by decide +kernel
theorem dX5_copyFrom_154 : decode cX5_copyFrom 154 = .ok (.iload_n 2, 1) := by decide +kernel
theorem dX5_copyFrom_155 : decode cX5_copyFrom 155 = .ok (.aaload, 1) := by decide +kernel
theorem dX5_copyFrom_156 : decode cX5_copyFrom 156 = .ok (.aload_n 1, 1) := by decide +kernel
theorem dX5_copyFrom_157 : decode cX5_copyFrom 157 = .ok (.getfield 51, 3) := by decide +kernel
theorem dX5_copyFrom_160 : decode cX5_copyFrom 160 = .ok (.iload_n 2, 1) := by decide +kernel
theorem dX5_copyFrom_161 : decode cX5_copyFrom 161 = .ok (.aaload, 1) := by decide +kernel
theorem dX5_copyFrom_162 : decode cX5_copyFrom 162 = .ok (.invokevirtual 71, 3) := by decide +kernel
theorem dX5_copyFrom_165 : decode cX5_copyFrom 165 = .ok (.iinc 2 1, 3) := by decide +kernel
theorem dX5_copyFrom_168 : decode cX5_copyFrom 168 = .ok (.goto (-26), 3) := by decide +kernel
theorem dX5_copyFrom_171 : decode cX5_copyFrom 171 = .ok (.return_, 1) := by decide +kernel
theorem dX5_addRule_0 : decode cX5_addRule 0 = .ok (.aload_n 0, 1) := by decide +kernel
theorem dX5_addRule_1 : decode cX5_addRule 1 = .ok (.getfield 27, 3) := by decide +kernel
theorem dX5_addRule_4 : decode cX5_addRule 4 = .ok (.bipush 24, 2) := by decide +kernel
theorem dX5_addRule_6 : decode cX5_addRule 6 = .ok (.if_icmp .lt 4, 3) := by decide +kernel
theorem dX5_addRule_9 : decode cX5_addRule 9 = .ok (.return_, 1) := by decide +kernel
theorem dX5_addRule_10 : decode cX5_addRule 10 = .ok (.aload_n 0, 1) := by decide +kernel
theorem dX5_addRule_11 : decode cX5_addRule 11 = .ok (.getfield 51, 3) := by decide +kernel
theorem dX5_addRule_14 : decode cX5_addRule 14 = .ok (.aload_n 0, 1) := by decide +kernel
theorem dX5_addRule_15 : decode cX5_addRule 15 = .ok (.getfield 27, 3) := by decide +kernel
theorem dX5_addRule_18 : decode cX5_addRule 18 = .ok (.aaload, 1) := by decide +kernel
theorem dX5_addRule_19 : decode cX5_addRule 19 = .ok (.astore 6, 2) := by decide +kernel
theorem dX5_addRule_21 : decode cX5_addRule 21 = .ok (.aload 6, 2) := by decide +kernel
theorem dX5_addRule_23 : decode cX5_addRule 23 = .ok (.iload_n 1, 1) := by decide +kernel
theorem dX5_addRule_24 : decode cX5_addRule 24 = .ok (.putfield 74, 3) := by decide +kernel
theorem dX5_addRule_27 : decode cX5_addRule 27 = .ok (.aload 6, 2) := by decide +kernel
theorem dX5_addRule_29 : decode cX5_addRule 29 = .ok (.iload_n 2, 1) := by decide +kernel
theorem dX5_addRule_30 : decode cX5_addRule 30 = .ok (.putfield 77, 3) := by decide +kernel
theorem dX5_addRule_33 : decode cX5_addRule 33 = .ok (.aload 6, 2) := by decide +kernel
theorem dX5_addRule_35 : decode cX5_addRule 35 = .ok (.iload_n 3, 1) := by decide +kernel
theorem dX5_addRule_36 : decode cX5_addRule 36 = .ok (.putfield 80, 3) := by decide +kernel
theorem dX5_addRule_39 : decode cX5_addRule 39 = .ok (.aload 6, 2) := by decide +kernel
theorem dX5_addRule_41 : decode cX5_addRule 41 = .ok (.iload 4, 2) := by decide +kernel
theorem dX5_addRule_43 : decode cX5_addRule 43 = .ok (.putfield 83, 3) := by decide +kernel
theorem dX5_addRule_46 : decode cX5_addRule 46 = .ok (.aload 6, 2) := by decide +kernel
theorem dX5_addRule_48 : decode cX5_addRule 48 = .ok (.iload 5, 2) := by decide +kernel
theorem dX5_addRule_50 : decode cX5_addRule 50 = .ok (.putfield 86, 3) := by decide +kernel
theorem dX5_addRule_53 : decode cX5_addRule 53 = .ok (.aload_n 0, 1) := by decide +kernel
theorem dX5_addRule_54 : decode cX5_addRule 54 = .ok (.dup, 1) := by decide +kernel
theorem dX5_addRule_55 : decode cX5_addRule 55 = .ok (.getfield 27, 3) := by decide +kernel
theorem dX5_addRule_58 : decode cX5_addRule 58 = .ok (.iconst 1, 1) := by decide +kernel
theorem dX5_addRule_59 : decode cX5_addRule 59 = .ok (.iadd, 1) := by decide +kernel
theorem dX5_addRule_60 : decode cX5_addRule 60 = .ok (.putfield 27, 3) := by decide +kernel
theorem dX5_addRule_63 : decode cX5_addRule 63 = .ok (.return_, 1) := by decide +kernel
theorem dX5_dropRule_0 : decode cX5_dropRule 0 = .ok (.iload_n 1, 1) := by decide +kernel
theorem dX5_dropRule_1 : decode cX5_dropRule 1 = .ok (.iconst 1, 1) := by decide +kernel
theorem dX5_dropRule_2 : decode cX5_dropRule 2 = .ok (.iadd, 1) := by decide +kernel
theorem dX5_dropRule_3 : decode cX5_dropRule 3 = .ok (.istore_n 2, 1) := by decide +kernel
theorem dX5_dropRule_4 : decode cX5_dropRule 4 = .ok (.iload_n 2, 1) := by decide +kernel
theorem dX5_dropRule_5 : decode cX5_dropRule 5 = .ok (.aload_n 0, 1) := by decide +kernel
theorem dX5_dropRule_6 : decode cX5_dropRule 6 = .ok (.getfield 27, 3) := by decide +kernel
theorem dX5_dropRule_9 : decode cX5_dropRule 9 = .ok (.if_icmp .ge 26, 3) := by decide +kernel
theorem dX5_dropRule_12 : decode cX5_dropRule 12 = .ok (.aload_n 0, 1) := by decide +kernel
theorem dX5_dropRule_13 : decode cX5_dropRule 13 = .ok (.getfield 51, 3) := by decide +kernel
theorem dX5_dropRule_16 : decode cX5_dropRule 16 = .ok (.iload_n 2, 1) := by decide +kernel
theorem dX5_dropRule_17 : decode cX5_dropRule 17 = .ok (.iconst 1, 1) := by decide +kernel
theorem dX5_dropRule_18 : decode cX5_dropRule 18 = .ok (.isub, 1) := by decide +kernel
theorem dX5_dropRule_19 : decode cX5_dropRule 19 = .ok (.aaload, 1) := by decide +kernel
theorem dX5_dropRule_20 : decode cX5_dropRule 20 = .ok (.aload_n 0, 1) := by decide +kernel
theorem dX5_dropRule_21 : decode cX5_dropRule 21 = .ok (.getfield 51, 3) := by decide +kernel
theorem dX5_dropRule_24 : decode cX5_dropRule 24 = .ok (.iload_n 2, 1) := by decide +kernel
theorem dX5_dropRule_25 : decode cX5_dropRule 25 = .ok (.aaload, 1) := by decide +kernel
theorem dX5_dropRule_26 : decode cX5_dropRule 26 = .ok (.invokevirtual 71, 3) := by decide +kernel
theorem dX5_dropRule_29 : decode cX5_dropRule 29 = .ok (.iinc 2 1, 3) := by decide +kernel
theorem dX5_dropRule_32 : decode cX5_dropRule 32 = .ok (.goto (-28), 3) := by decide +kernel
theorem dX5_dropRule_35 : decode cX5_dropRule 35 = .ok (.aload_n 0, 1) := by decide +kernel
theorem dX5_dropRule_36 : decode cX5_dropRule 36 = .ok (.dup, 1) := by decide +kernel
theorem dX5_dropRule_37 : decode cX5_dropRule 37 = .ok (.getfield 27, 3) := by decide +kernel
theorem dX5_dropRule_40 : decode cX5_dropRule 40 = .ok (.iconst 1, 1) := by decide +kernel
theorem dX5_dropRule_41 : decode cX5_dropRule 41 = .ok (.isub, 1) := by decide +kernel
theorem dX5_dropRule_42 : decode cX5_dropRule 42 = .ok (.putfield 27, 3) := by decide +kernel
theorem dX5_dropRule_45 : decode cX5_dropRule 45 = .ok (.return_, 1) := by decide +kernel
theorem dX5_layAges_0 : decode cX5_layAges 0 = .ok (.iconst 0, 1) := by decide +kernel
theorem dX5_layAges_1 : decode cX5_layAges 1 = .ok (.istore_n 2, 1) := by decide +kernel
theorem dX5_layAges_2 : decode cX5_layAges 2 = .ok (.iload_n 2, 1) := by decide +kernel
theorem dX5_layAges_3 : decode cX5_layAges 3 = .ok (.sipush 1000, 3) := by decide +kernel
theorem dX5_layAges_6 : decode cX5_layAges 6 = .ok (.if_icmp .ge 13, 3) := by decide +kernel
theorem dX5_layAges_9 : decode cX5_layAges 9 = .ok (.aload_n 1, 1) := by decide +kernel
theorem dX5_layAges_10 : decode cX5_layAges 10 = .ok (.iload_n 2, 1) := by decide +kernel
theorem dX5_layAges_11 : decode cX5_layAges 11 = .ok (.iconst (-1), 1) := by decide +kernel
theorem dX5_layAges_12 : decode cX5_layAges 12 = .ok (.iastore, 1) := by decide +kernel
theorem dX5_layAges_13 : decode cX5_layAges 13 = .ok (.iinc 2 1, 3) := by decide +kernel
theorem dX5_layAges_16 : decode cX5_layAges 16 = .ok (.goto (-14), 3) := by decide +kernel
theorem dX5_layAges_19 : decode cX5_layAges 19 = .ok (.iconst 0, 1) := by decide +kernel
theorem dX5_layAges_20 : decode cX5_layAges 20 = .ok (.istore_n 2, 1) := by decide +kernel
theorem dX5_layAges_21 : decode cX5_layAges 21 = .ok (.iload_n 2, 1) := by decide +kernel
theorem dX5_layAges_22 : decode cX5_layAges 22 = .ok (.iconst 1, 1) := by decide +kernel
theorem dX5_layAges_23 : decode cX5_layAges 23 = .ok (.iadd, 1) := by decide +kernel
theorem dX5_layAges_24 : decode cX5_layAges 24 = .ok (.aload_n 0, 1) := by decide +kernel
theorem dX5_layAges_25 : decode cX5_layAges 25 = .ok (.getfield 18, 3) := by decide +kernel
theorem dX5_layAges_28 : decode cX5_layAges 28 = .ok (.if_icmp .ge 86, 3) := by decide +kernel
theorem dX5_layAges_31 : decode cX5_layAges 31 = .ok (.aload_n 0, 1) := by decide +kernel
theorem dX5_layAges_32 : decode cX5_layAges 32 = .ok (.getfield 30, 3) := by decide +kernel
theorem dX5_layAges_35 : decode cX5_layAges 35 = .ok (.iload_n 2, 1) := by decide +kernel
theorem dX5_layAges_36 : decode cX5_layAges 36 = .ok (.iconst 1, 1) := by decide +kernel
theorem dX5_layAges_37 : decode cX5_layAges 37 = .ok (.iadd, 1) := by decide +kernel
theorem dX5_layAges_38 : decode cX5_layAges 38 = .ok (.iaload, 1) := by decide +kernel
theorem dX5_layAges_39 : decode cX5_layAges 39 = .ok (.aload_n 0, 1) := by decide +kernel
theorem dX5_layAges_40 : decode cX5_layAges 40 = .ok (.getfield 30, 3) := by decide +kernel
theorem dX5_layAges_43 : decode cX5_layAges 43 = .ok (.iload_n 2, 1) := by decide +kernel
theorem dX5_layAges_44 : decode cX5_layAges 44 = .ok (.iaload, 1) := by decide +kernel
theorem dX5_layAges_45 : decode cX5_layAges 45 = .ok (.isub, 1) := by decide +kernel
theorem dX5_layAges_46 : decode cX5_layAges 46 = .ok (.istore_n 3, 1) := by decide +kernel
theorem dX5_layAges_47 : decode cX5_layAges 47 = .ok (.aload_n 0, 1) := by decide +kernel
theorem dX5_layAges_48 : decode cX5_layAges 48 = .ok (.getfield 34, 3) := by decide +kernel
theorem dX5_layAges_51 : decode cX5_layAges 51 = .ok (.iload_n 2, 1) := by decide +kernel
theorem dX5_layAges_52 : decode cX5_layAges 52 = .ok (.iconst 1, 1) := by decide +kernel
theorem dX5_layAges_53 : decode cX5_layAges 53 = .ok (.iadd, 1) := by decide +kernel
theorem dX5_layAges_54 : decode cX5_layAges 54 = .ok (.iaload, 1) := by decide +kernel
theorem dX5_layAges_55 : decode cX5_layAges 55 = .ok (.aload_n 0, 1) := by decide +kernel
theorem dX5_layAges_56 : decode cX5_layAges 56 = .ok (.getfield 34, 3) := by decide +kernel
theorem dX5_layAges_59 : decode cX5_layAges 59 = .ok (.iload_n 2, 1) := by decide +kernel
theorem dX5_layAges_60 : decode cX5_layAges 60 = .ok (.iaload, 1) := by decide +kernel
theorem dX5_layAges_61 : decode cX5_layAges 61 = .ok (.isub, 1) := by decide +kernel
theorem dX5_layAges_62 : decode cX5_layAges 62 = .ok (.istore 4, 2) := by decide +kernel
theorem dX5_layAges_64 : decode cX5_layAges 64 = .ok (.iconst 0, 1) := by decide +kernel
theorem dX5_layAges_65 : decode cX5_layAges 65 = .ok (.istore 5, 2) := by decide +kernel
theorem dX5_layAges_67 : decode cX5_layAges 67 = .ok (.iload 5, 2) := by decide +kernel
theorem dX5_layAges_69 : decode cX5_layAges 69 = .ok (.iload_n 3, 1) := by decide +kernel
theorem dX5_layAges_70 : decode cX5_layAges 70 = .ok (.if_icmp .gt 38, 3) := by decide +kernel
theorem dX5_layAges_73 : decode cX5_layAges 73 = .ok (.iload_n 3, 1) := by decide +kernel
theorem dX5_layAges_74 : decode cX5_layAges 74 = .ok (.ifCond .le 34, 3) := by decide +kernel
theorem dX5_layAges_77 : decode cX5_layAges 77 = .ok (.aload_n 1, 1) := by decide +kernel
theorem dX5_layAges_78 : decode cX5_layAges 78 = .ok (.aload_n 0, 1) := by decide +kernel
theorem dX5_layAges_79 : decode cX5_layAges 79 = .ok (.getfield 30, 3) := by decide +kernel
theorem dX5_layAges_82 : decode cX5_layAges 82 = .ok (.iload_n 2, 1) := by decide +kernel
theorem dX5_layAges_83 : decode cX5_layAges 83 = .ok (.iaload, 1) := by decide +kernel
theorem dX5_layAges_84 : decode cX5_layAges 84 = .ok (.iload 5, 2) := by decide +kernel
theorem dX5_layAges_86 : decode cX5_layAges 86 = .ok (.iadd, 1) := by decide +kernel
theorem dX5_layAges_87 : decode cX5_layAges 87 = .ok (.aload_n 0, 1) := by decide +kernel
theorem dX5_layAges_88 : decode cX5_layAges 88 = .ok (.getfield 34, 3) := by decide +kernel
theorem dX5_layAges_91 : decode cX5_layAges 91 = .ok (.iload_n 2, 1) := by decide +kernel
theorem dX5_layAges_92 : decode cX5_layAges 92 = .ok (.iaload, 1) := by decide +kernel
theorem dX5_layAges_93 : decode cX5_layAges 93 = .ok (.iload 4, 2) := by decide +kernel
theorem dX5_layAges_95 : decode cX5_layAges 95 = .ok (.iload 5, 2) := by decide +kernel
theorem dX5_layAges_97 : decode cX5_layAges 97 = .ok (.imul, 1) := by decide +kernel
theorem dX5_layAges_98 : decode cX5_layAges 98 = .ok (.iload_n 3, 1) := by decide +kernel
theorem dX5_layAges_99 : decode cX5_layAges 99 = .ok (.idiv, 1) := by decide +kernel
theorem dX5_layAges_100 : decode cX5_layAges 100 = .ok (.iadd, 1) := by decide +kernel
theorem dX5_layAges_101 : decode cX5_layAges 101 = .ok (.iastore, 1) := by decide +kernel
theorem dX5_layAges_102 : decode cX5_layAges 102 = .ok (.iinc 5 1, 3) := by decide +kernel
theorem dX5_layAges_105 : decode cX5_layAges 105 = .ok (.goto (-38), 3) := by decide +kernel
theorem dX5_layAges_108 : decode cX5_layAges 108 = .ok (.iinc 2 1, 3) := by decide +kernel
theorem dX5_layAges_111 : decode cX5_layAges 111 = .ok (.goto (-90), 3) := by decide +kernel
theorem dX5_layAges_114 : decode cX5_layAges 114 = .ok (.return_, 1) := by decide +kernel
theorem dX6_init_0 : decode cX6_init 0 = .ok (.aload_n 0, 1) := by decide +kernel
theorem dX6_init_1 : decode cX6_init 1 = .ok (.invokespecial 3, 3) := by decide +kernel
theorem dX6_init_4 : decode cX6_init 4 = .ok (.aload_n 0, 1) := by decide +kernel
theorem dX6_init_5 : decode cX6_init 5 = .ok (.bipush 12, 2) := by decide +kernel
theorem dX6_init_7 : decode cX6_init 7 = .ok (.newarray .int, 2) := by decide +kernel
theorem dX6_init_9 : decode cX6_init 9 = .ok (.putfield 9, 3) := by decide +kernel
theorem dX6_init_12 : decode cX6_init 12 = .ok (.aload_n 0, 1) := by decide +kernel
theorem dX6_init_13 : decode cX6_init 13 = .ok (.iconst 0, 1) := by decide +kernel
theorem dX6_init_14 : decode cX6_init 14 = .ok (.putfield 15, 3) := by decide +kernel
theorem dX6_init_17 : decode cX6_init 17 = .ok (.aload_n 0, 1) := by decide +kernel
theorem dX6_init_18 : decode cX6_init 18 = .ok (.iconst 0, 1) := by decide +kernel
theorem dX6_init_19 : decode cX6_init 19 = .ok (.putfield 19, 3) := by decide +kernel
theorem dX6_init_22 : decode cX6_init 22 = .ok (.aload_n 0, 1) := by decide +kernel
theorem dX6_init_23 : decode cX6_init 23 = .ok (.iconst 0, 1) := by decide +kernel
theorem dX6_init_24 : decode cX6_init 24 = .ok (.putfield 23, 3) := by decide +kernel
theorem dX6_init_27 : decode cX6_init 27 = .ok (.aload_n 0, 1) := by decide +kernel
theorem dX6_init_28 : decode cX6_init 28 = .ok (.bipush 12, 2) := by decide +kernel
theorem dX6_init_30 : decode cX6_init 30 = .ok (.bipush 12, 2) := by decide +kernel
theorem dX6_init_32 : decode cX6_init 32 = .ok (.multianewarray 26 2, 4) := by decide +kernel
theorem dX6_init_36 : decode cX6_init 36 = .ok (.putfield 28, 3) := by decide +kernel
theorem dX6_init_39 : decode cX6_init 39 = .ok (.aload_n 0, 1) := by decide +kernel
theorem dX6_init_40 : decode cX6_init 40 = .ok (.bipush 12, 2) := by decide +kernel
theorem dX6_init_42 : decode cX6_init 42 = .ok (.bipush 12, 2) := by decide +kernel
theorem dX6_init_44 : decode cX6_init 44 = .ok (.multianewarray 26 2, 4) := by decide +kernel
theorem dX6_init_48 : decode cX6_init 48 = .ok (.putfield 31, 3) := by decide +kernel
theorem dX6_init_51 : decode cX6_init 51 = .ok (.aload_n 0, 1) := by decide +kernel
theorem dX6_init_52 : decode cX6_init 52 = .ok (.aload_n 1, 1) := by decide +kernel
theorem dX6_init_53 : decode cX6_init 53 = .ok (.putfield 34, 3) := by decide +kernel
theorem dX6_init_56 : decode cX6_init 56 = .ok (.aload_n 0, 1) := by decide +kernel
theorem dX6_init_57 : decode cX6_init 57 = .ok (.aload_n 2, 1) := by decide +kernel
theorem dX6_init_58 : decode cX6_init 58 = .ok (.putfield 38, 3) := by decide +kernel
theorem dX6_init_61 : decode cX6_init 61 = .ok (.return_, 1) := by decide +kernel
theorem dX6_seek_0 : decode cX6_seek 0 = .ok (.aload_n 0, 1) := by decide +kernel
theorem dX6_seek_1 : decode cX6_seek 1 = .ok (.getfield 15, 3) := by decide +kernel
theorem dX6_seek_4 : decode cX6_seek 4 = .ok (.ifCond .eq 4, 3) := by decide +kernel
theorem dX6_seek_7 : decode cX6_seek 7 = .ok (.return_, 1) := by decide +kernel
theorem dX6_seek_8 : decode cX6_seek 8 = .ok (.aload_n 0, 1) := by decide +kernel
theorem dX6_seek_9 : decode cX6_seek 9 = .ok (.iconst 1, 1) := by decide +kernel
theorem dX6_seek_10 : decode cX6_seek 10 = .ok (.putfield 15, 3) := by decide +kernel
theorem dX6_seek_13 : decode cX6_seek 13 = .ok (.aload_n 0, 1) := by decide +kernel
theorem dX6_seek_14 : decode cX6_seek 14 = .ok (.invokevirtual 42, 3) := by decide +kernel
theorem dX6_seek_17 : decode cX6_seek 17 = .ok (.aload_n 0, 1) := by decide +kernel
theorem dX6_seek_18 : decode cX6_seek 18 = .ok (.iconst 0, 1) := by decide +kernel
theorem dX6_seek_19 : decode cX6_seek 19 = .ok (.putfield 23, 3) := by decide +kernel
theorem dX6_seek_22 : decode cX6_seek 22 = .ok (.aload_n 0, 1) := by decide +kernel
theorem dX6_seek_23 : decode cX6_seek 23 = .ok (.bipush (-2), 2) := by decide +kernel
theorem dX6_seek_25 : decode cX6_seek 25 = .ok (.putfield 19, 3) := by decide +kernel
theorem dX6_seek_28 : decode cX6_seek 28 = .ok (.aload_n 0, 1) := by decide +kernel
theorem dX6_seek_29 : decode cX6_seek 29 = .ok (.getfield 9, 3) := by decide +kernel
theorem dX6_seek_32 : decode cX6_seek 32 = .ok (.iconst 0, 1) := by decide +kernel
theorem dX6_seek_33 : decode cX6_seek 33 = .ok (.iconst (-1), 1) := by decide +kernel
theorem dX6_seek_34 : decode cX6_seek 34 = .ok (.iastore, 1) := by decide +kernel
theorem dX6_seek_35 : decode cX6_seek 35 = .ok (.iconst 0, 1) := by decide +kernel
theorem dX6_seek_36 : decode cX6_seek 36 = .ok (.istore_n 1, 1) := by decide +kernel
theorem dX6_seek_37 : decode cX6_seek 37 = .ok (.iconst 0, 1) := by decide +kernel
theorem dX6_seek_38 : decode cX6_seek 38 = .ok (.istore_n 2, 1) := by decide +kernel
theorem dX6_seek_39 : decode cX6_seek 39 = .ok (.iload_n 2, 1) := by decide +kernel
theorem dX6_seek_40 : decode cX6_seek 40 = .ok (.ldc 45, 2) := by decide +kernel
theorem dX6_seek_42 : decode cX6_seek 42 = .ok (.if_icmp .ge 115, 3) := by decide +kernel
theorem dX6_seek_45 : decode cX6_seek 45 = .ok (.iload_n 1, 1) := by decide +kernel
theorem dX6_seek_46 : decode cX6_seek 46 = .ok (.ifCond .lt 111, 3) := by decide +kernel
theorem dX6_seek_49 : decode cX6_seek 49 = .ok (.iload_n 1, 1) := by decide +kernel
theorem dX6_seek_50 : decode cX6_seek 50 = .ok (.aload_n 0, 1) := by decide +kernel
theorem dX6_seek_51 : decode cX6_seek 51 = .ok (.getfield 34, 3) := by decide +kernel
theorem dX6_seek_54 : decode cX6_seek 54 = .ok (.getfield 46, 3) := by decide +kernel
theorem dX6_seek_57 : decode cX6_seek 57 = .ok (.if_icmp .ge 100, 3) := by decide +kernel
theorem dX6_seek_60 : decode cX6_seek 60 = .ok (.aload_n 0, 1) := by decide +kernel
theorem dX6_seek_61 : decode cX6_seek 61 = .ok (.getfield 38, 3) := by decide +kernel
theorem dX6_seek_64 : decode cX6_seek 64 = .ok (.getfield 51, 3) := by decide +kernel
theorem dX6_seek_67 : decode cX6_seek 67 = .ok (.iload_n 1, 1) := by decide +kernel
theorem dX6_seek_68 : decode cX6_seek 68 = .ok (.aaload, 1) := by decide +kernel
theorem dX6_seek_69 : decode cX6_seek 69 = .ok (.aload_n 0, 1) := by decide +kernel
theorem dX6_seek_70 : decode cX6_seek 70 = .ok (.getfield 9, 3) := by decide +kernel
theorem dX6_seek_73 : decode cX6_seek 73 = .ok (.iload_n 1, 1) := by decide +kernel
theorem dX6_seek_74 : decode cX6_seek 74 = .ok (.iaload, 1) := by decide +kernel
theorem dX6_seek_75 : decode cX6_seek 75 = .ok (.iconst 1, 1) := by decide +kernel
theorem dX6_seek_76 : decode cX6_seek 76 = .ok (.iadd, 1) := by decide +kernel
theorem dX6_seek_77 : decode cX6_seek 77 = .ok (.invokestatic 57, 3) := by decide +kernel
theorem dX6_seek_80 : decode cX6_seek 80 = .ok (.istore_n 3, 1) := by decide +kernel
theorem dX6_seek_81 : decode cX6_seek 81 = .ok (.iload_n 3, 1) := by decide +kernel
theorem dX6_seek_82 : decode cX6_seek 82 = .ok (.sipush 1000, 3) := by decide +kernel
theorem dX6_seek_85 : decode cX6_seek 85 = .ok (.if_icmp .lt 9, 3) := by decide +kernel
theorem dX6_seek_88 : decode cX6_seek 88 = .ok (.iinc 1 (-1), 3) := by decide +kernel
theorem dX6_seek_91 : decode cX6_seek 91 = .ok (.goto 60, 3) := by decide +kernel
theorem dX6_seek_94 : decode cX6_seek 94 = .ok (.aload_n 0, 1) := by decide +kernel
theorem dX6_seek_95 : decode cX6_seek 95 = .ok (.getfield 23, 3) := by decide +kernel
theorem dX6_seek_98 : decode cX6_seek 98 = .ok (.sipush 20000, 3) := by decide +kernel
theorem dX6_seek_101 : decode cX6_seek 101 = .ok (.if_icmp .ne 4, 3) := by decide +kernel
theorem dX6_seek_104 : decode cX6_seek 104 = .ok (.return_, 1) := by decide +kernel
theorem dX6_seek_105 : decode cX6_seek 105 = .ok (.aload_n 0, 1) := by decide +kernel
theorem dX6_seek_106 : decode cX6_seek 106 = .ok (.dup, 1) := by decide +kernel
theorem dX6_seek_107 : decode cX6_seek 107 = .ok (.getfield 23, 3) := by decide +kernel
theorem dX6_seek_110 : decode cX6_seek 110 = .ok (.iconst 1, 1) := by decide +kernel
theorem dX6_seek_111 : decode cX6_seek 111 = .ok (.iadd, 1) := by decide +kernel
theorem dX6_seek_112 : decode cX6_seek 112 = .ok (.putfield 23, 3) := by decide +kernel
theorem dX6_seek_115 : decode cX6_seek 115 = .ok (.aload_n 0, 1) := by decide +kernel
theorem dX6_seek_116 : decode cX6_seek 116 = .ok (.getfield 9, 3) := by decide +kernel
theorem dX6_seek_119 : decode cX6_seek 119 = .ok (.iload_n 1, 1) := by decide +kernel
theorem dX6_seek_120 : decode cX6_seek 120 = .ok (.iload_n 3, 1) := by decide +kernel
theorem dX6_seek_121 : decode cX6_seek 121 = .ok (.iastore, 1) := by decide +kernel
theorem dX6_seek_122 : decode cX6_seek 122 = .ok (.aload_n 0, 1) := by decide +kernel
theorem dX6_seek_123 : decode cX6_seek 123 = .ok (.iload_n 1, 1) := by decide +kernel
theorem dX6_seek_124 : decode cX6_seek 124 = .ok (.invokevirtual 63, 3) := by decide +kernel
theorem dX6_seek_127 : decode cX6_seek 127 = .ok (.ifCond .eq 24, 3) := by decide +kernel
theorem dX6_seek_130 : decode cX6_seek 130 = .ok (.iinc 1 1, 3) := by decide +kernel
theorem dX6_seek_133 : decode cX6_seek 133 = .ok (.iload_n 1, 1) := by decide +kernel
theorem dX6_seek_134 : decode cX6_seek 134 = .ok (.aload_n 0, 1) := by decide +kernel
theorem dX6_seek_135 : decode cX6_seek 135 = .ok (.getfield 34, 3) := by decide +kernel
theorem dX6_seek_138 : decode cX6_seek 138 = .ok (.getfield 46, 3) := by decide +kernel
theorem dX6_seek_141 : decode cX6_seek 141 = .ok (.if_icmp .ge 10, 3) := by decide +kernel
theorem dX6_seek_144 : decode cX6_seek 144 = .ok (.aload_n 0, 1) := by decide +kernel
theorem dX6_seek_145 : decode cX6_seek 145 = .ok (.getfield 9, 3) := by decide +kernel
theorem dX6_seek_148 : decode cX6_seek 148 = .ok (.iload_n 1, 1) := by decide +kernel
theorem dX6_seek_149 : decode cX6_seek 149 = .ok (.iconst (-1), 1) := by decide +kernel
theorem dX6_seek_150 : decode cX6_seek 150 = .ok (.iastore, 1) := by decide +kernel
theorem dX6_seek_151 : decode cX6_seek 151 = .ok (.iinc 2 1, 3) := by decide +kernel
theorem dX6_seek_154 : decode cX6_seek 154 = .ok (.goto (-115), 3) := by decide +kernel
theorem dX6_seek_157 : decode cX6_seek 157 = .ok (.aload_n 0, 1) := by decide +kernel
theorem dX6_seek_158 : decode cX6_seek 158 = .ok (.iload_n 1, 1) := by decide +kernel
theorem dX6_seek_159 : decode cX6_seek 159 = .ok (.ifCond .ge 7, 3) := by decide +kernel
theorem dX6_seek_162 : decode cX6_seek 162 = .ok (.iconst 0, 1) := by decide +kernel
theorem dX6_seek_163 : decode cX6_seek 163 = .ok (.goto 4, 3) := by decide +kernel
theorem dX6_seek_166 : decode cX6_seek 166 = .ok (.iconst 1, 1) := by decide +kernel
theorem dX6_seek_167 : decode cX6_seek 167 = .ok (.putfield 19, 3) := by decide +kernel
theorem dX6_seek_170 : decode cX6_seek 170 = .ok (.return_, 1) := by decide +kernel
theorem dX6_fitsThoseAhead_0 : decode cX6_fitsThoseAhead 0 = .ok (.iconst 0, 1) := by decide +kernel
theorem dX6_fitsThoseAhead_1 : decode cX6_fitsThoseAhead 1 = .ok (.istore_n 2, 1) := by decide +kernel
theorem dX6_fitsThoseAhead_2 : decode cX6_fitsThoseAhead 2 = .ok (.iload_n 2, 1) := by decide +kernel
theorem dX6_fitsThoseAhead_3 : decode cX6_fitsThoseAhead 3 = .ok (.iload_n 1, 1) := by decide +kernel
theorem dX6_fitsThoseAhead_4 : decode cX6_fitsThoseAhead 4 = .ok (.if_icmp .ge 49, 3) := by decide +kernel
theorem dX6_fitsThoseAhead_7 : decode cX6_fitsThoseAhead 7 = .ok (.aload_n 0, 1) := by decide +kernel
theorem dX6_fitsThoseAhead_8 : decode cX6_fitsThoseAhead 8 = .ok (.getfield 9, 3) := by decide +kernel
theorem dX6_fitsThoseAhead_11 : decode cX6_fitsThoseAhead 11 = .ok (.iload_n 1, 1) := by decide +kernel
theorem dX6_fitsThoseAhead_12 : decode cX6_fitsThoseAhead 12 = .ok (.iaload, 1) := by decide +kernel
theorem dX6_fitsThoseAhead_13 : decode cX6_fitsThoseAhead 13 = .ok (.aload_n 0, 1) := by decide +kernel
theorem dX6_fitsThoseAhead_14 : decode cX6_fitsThoseAhead 14 = .ok (.getfield 9, 3) := by decide +kernel
theorem dX6_fitsThoseAhead_17 : decode cX6_fitsThoseAhead 17 = .ok (.iload_n 2, 1) := by decide +kernel
theorem dX6_fitsThoseAhead_18 : decode cX6_fitsThoseAhead 18 = .ok (.iaload, 1) := by decide +kernel
theorem dX6_fitsThoseAhead_19 : decode cX6_fitsThoseAhead 19 = .ok (.isub, 1) := by decide +kernel
theorem dX6_fitsThoseAhead_20 : decode cX6_fitsThoseAhead 20 = .ok (.istore_n 3, 1) := by decide +kernel
theorem dX6_fitsThoseAhead_21 : decode cX6_fitsThoseAhead 21 = .ok (.iload_n 3, 1) := by decide +kernel
theorem dX6_fitsThoseAhead_22 : decode cX6_fitsThoseAhead 22 = .ok (.aload_n 0, 1) := by decide +kernel
theorem dX6_fitsThoseAhead_23 : decode cX6_fitsThoseAhead 23 = .ok (.getfield 28, 3) := by decide +kernel
theorem dX6_fitsThoseAhead_26 : decode cX6_fitsThoseAhead 26 = .ok (.iload_n 1, 1) := by decide +kernel
theorem dX6_fitsThoseAhead_27 : decode cX6_fitsThoseAhead 27 = .ok (.aaload, 1) := by decide +kernel
theorem dX6_fitsThoseAhead_28 : decode cX6_fitsThoseAhead 28 = .ok (.iload_n 2, 1) := by decide +kernel
theorem dX6_fitsThoseAhead_29 : decode cX6_fitsThoseAhead 29 = .ok (.iaload, 1) := by decide +kernel
theorem dX6_fitsThoseAhead_30 : decode cX6_fitsThoseAhead 30 = .ok (.if_icmp .lt 15, 3) := by decide +kernel
theorem dX6_fitsThoseAhead_33 : decode cX6_fitsThoseAhead 33 = .ok (.iload_n 3, 1) := by decide +kernel
theorem dX6_fitsThoseAhead_34 : decode cX6_fitsThoseAhead 34 = .ok (.aload_n 0, 1) := by decide +kernel
theorem dX6_fitsThoseAhead_35 : decode cX6_fitsThoseAhead 35 = .ok (.getfield 31, 3) := by decide +kernel
theorem dX6_fitsThoseAhead_38 : decode cX6_fitsThoseAhead 38 = .ok (.iload_n 1, 1) := by decide +kernel
theorem dX6_fitsThoseAhead_39 : decode cX6_fitsThoseAhead 39 = .ok (.aaload, 1) := by decide +kernel
theorem dX6_fitsThoseAhead_40 : decode cX6_fitsThoseAhead 40 = .ok (.iload_n 2, 1) := by decide +kernel
theorem dX6_fitsThoseAhead_41 : decode cX6_fitsThoseAhead 41 = .ok (.iaload, 1) := by decide +kernel
theorem dX6_fitsThoseAhead_42 : decode cX6_fitsThoseAhead 42 = .ok (.if_icmp .le 5, 3) := by decide +kernel
theorem dX6_fitsThoseAhead_45 : decode cX6_fitsThoseAhead 45 = .ok (.iconst 0, 1) := by decide +kernel
theorem dX6_fitsThoseAhead_46 : decode cX6_fitsThoseAhead 46 = .ok (.ireturn, 1) := by decide +kernel
theorem dX6_fitsThoseAhead_47 : decode cX6_fitsThoseAhead 47 = .ok (.iinc 2 1, 3) := by decide +kernel
theorem dX6_fitsThoseAhead_50 : decode cX6_fitsThoseAhead 50 = .ok (.goto (-48), 3) := by decide +kernel
theorem dX6_fitsThoseAhead_53 : decode cX6_fitsThoseAhead 53 = .ok (.iconst 1, 1) := by decide +kernel
theorem dX6_fitsThoseAhead_54 : decode cX6_fitsThoseAhead 54 = .ok (.ireturn, 1) := by decide +kernel
theorem dX6_bindAll_0 : decode cX6_bindAll 0 = .ok (.iconst 0, 1) := by decide +kernel
theorem dX6_bindAll_1 : decode cX6_bindAll 1 = .ok (.istore_n 1, 1) := by decide +kernel
theorem dX6_bindAll_2 : decode cX6_bindAll 2 = .ok (.iload_n 1, 1) := by decide +kernel
theorem dX6_bindAll_3 : decode cX6_bindAll 3 = .ok (.aload_n 0, 1) := by decide +kernel
theorem dX6_bindAll_4 : decode cX6_bindAll 4 = .ok (.getfield 34, 3) := by decide +kernel
theorem dX6_bindAll_7 : decode cX6_bindAll 7 = .ok (.getfield 46, 3) := by decide +kernel
theorem dX6_bindAll_10 : decode cX6_bindAll 10 = .ok (.if_icmp .ge 44, 3) := by decide +kernel
theorem dX6_bindAll_13 : decode cX6_bindAll 13 = .ok (.iconst 0, 1) := by decide +kernel
theorem dX6_bindAll_14 : decode cX6_bindAll 14 = .ok (.istore_n 2, 1) := by decide +kernel
theorem dX6_bindAll_15 : decode cX6_bindAll 15 = .ok (.iload_n 2, 1) := by decide +kernel
theorem dX6_bindAll_16 : decode cX6_bindAll 16 = .ok (.iload_n 1, 1) := by decide +kernel
theorem dX6_bindAll_17 : decode cX6_bindAll 17 = .ok (.if_icmp .ge 31, 3) := by decide +kernel
theorem dX6_bindAll_20 : decode cX6_bindAll 20 = .ok (.aload_n 0, 1) := by decide +kernel
theorem dX6_bindAll_21 : decode cX6_bindAll 21 = .ok (.getfield 28, 3) := by decide +kernel
theorem dX6_bindAll_24 : decode cX6_bindAll 24 = .ok (.iload_n 1, 1) := by decide +kernel
theorem dX6_bindAll_25 : decode cX6_bindAll 25 = .ok (.aaload, 1) := by decide +kernel
theorem dX6_bindAll_26 : decode cX6_bindAll 26 = .ok (.iload_n 2, 1) := by decide +kernel
theorem dX6_bindAll_27 : decode cX6_bindAll 27 = .ok (.sipush (-999), 3) := by decide +kernel
theorem dX6_bindAll_30 : decode cX6_bindAll 30 = .ok (.iastore, 1) := by decide +kernel
theorem dX6_bindAll_31 : decode cX6_bindAll 31 = .ok (.aload_n 0, 1) := by decide +kernel
theorem dX6_bindAll_32 : decode cX6_bindAll 32 = .ok (.getfield 31, 3) := by decide +kernel
theorem dX6_bindAll_35 : decode cX6_bindAll 35 = .ok (.iload_n 1, 1) := by decide +kernel
theorem dX6_bindAll_36 : decode cX6_bindAll 36 = .ok (.aaload, 1) := by decide +kernel
theorem dX6_bindAll_37 : decode cX6_bindAll 37 = .ok (.iload_n 2, 1) := by decide +kernel
theorem dX6_bindAll_38 : decode cX6_bindAll 38 = .ok (.sipush 999, 3) := by decide +kernel
theorem dX6_bindAll_41 : decode cX6_bindAll 41 = .ok (.iastore, 1) := by decide +kernel
theorem dX6_bindAll_42 : decode cX6_bindAll 42 = .ok (.iinc 2 1, 3) := by decide +kernel
theorem dX6_bindAll_45 : decode cX6_bindAll 45 = .ok (.goto (-30), 3) := by decide +kernel
theorem dX6_bindAll_48 : decode cX6_bindAll 48 = .ok (.iinc 1 1, 3) := by decide +kernel
theorem dX6_bindAll_51 : decode cX6_bindAll 51 = .ok (.goto (-49), 3) := by decide +kernel
theorem dX6_bindAll_54 : decode cX6_bindAll 54 = .ok (.iconst 0, 1) := by decide +kernel
theorem dX6_bindAll_55 : decode cX6_bindAll 55 = .ok (.istore_n 1, 1) := by decide +kernel
theorem dX6_bindAll_56 : decode cX6_bindAll 56 = .ok (.iload_n 1, 1) := by decide +kernel
theorem dX6_bindAll_57 : decode cX6_bindAll 57 = .ok (.aload_n 0, 1) := by decide +kernel
theorem dX6_bindAll_58 : decode cX6_bindAll 58 = .ok (.getfield 34, 3) := by decide +kernel
theorem dX6_bindAll_61 : decode cX6_bindAll 61 = .ok (.getfield 67, 3) := by decide +kernel
theorem dX6_bindAll_64 : decode cX6_bindAll 64 = .ok (.if_icmp .ge 160, 3) := by decide +kernel
theorem dX6_bindAll_67 : decode cX6_bindAll 67 = .ok (.aload_n 0, 1) := by decide +kernel
theorem dX6_bindAll_68 : decode cX6_bindAll 68 = .ok (.getfield 34, 3) := by decide +kernel
theorem dX6_bindAll_71 : decode cX6_bindAll 71 = .ok (.getfield 70, 3) := by decide +kernel
theorem dX6_bindAll_74 : decode cX6_bindAll 74 = .ok (.iload_n 1, 1) := by decide +kernel
theorem dX6_bindAll_75 : decode cX6_bindAll 75 = .ok (.aaload, 1) := by decide +kernel
theorem dX6_bindAll_76 : decode cX6_bindAll 76 = .ok (.astore_n 2, 1) := by decide +kernel
theorem dX6_bindAll_77 : decode cX6_bindAll 77 = .ok (.aload_n 2, 1) := by decide +kernel
theorem dX6_bindAll_78 : decode cX6_bindAll 78 = .ok (.getfield 74, 3) := by decide +kernel
theorem dX6_bindAll_81 : decode cX6_bindAll 81 = .ok (.tableswitch 137 0 5 #[39, 62, 137, 137, 79, 114], 39) := by decide +kernel
theorem dX6_bindAll_120 : decode cX6_bindAll 120 = .ok (.aload_n 0, 1) := by decide +kernel
theorem dX6_bindAll_121 : decode cX6_bindAll 121 = .ok (.aload_n 2, 1) := by decide +kernel
theorem dX6_bindAll_122 : decode cX6_bindAll 122 = .ok (.getfield 79, 3) := by decide +kernel
theorem dX6_bindAll_125 : decode cX6_bindAll 125 = .ok (.aload_n 2, 1) := by decide +kernel
theorem dX6_bindAll_126 : decode cX6_bindAll 126 = .ok (.getfield 82, 3) := by decide +kernel
theorem dX6_bindAll_129 : decode cX6_bindAll 129 = .ok (.aload_n 2, 1) := by decide +kernel
theorem dX6_bindAll_130 : decode cX6_bindAll 130 = .ok (.getfield 85, 3) := by decide +kernel
theorem dX6_bindAll_133 : decode cX6_bindAll 133 = .ok (.aload_n 2, 1) := by decide +kernel
theorem dX6_bindAll_134 : decode cX6_bindAll 134 = .ok (.getfield 87, 3) := by decide +kernel
theorem dX6_bindAll_137 : decode cX6_bindAll 137 = .ok (.invokevirtual 89, 3) := by decide +kernel
theorem dX6_bindAll_140 : decode cX6_bindAll 140 = .ok (.goto 78, 3) := by decide +kernel
theorem dX6_bindAll_143 : decode cX6_bindAll 143 = .ok (.aload_n 0, 1) := by decide +kernel
theorem dX6_bindAll_144 : decode cX6_bindAll 144 = .ok (.aload_n 2, 1) := by decide +kernel
theorem dX6_bindAll_145 : decode cX6_bindAll 145 = .ok (.getfield 79, 3) := by decide +kernel
theorem dX6_bindAll_148 : decode cX6_bindAll 148 = .ok (.aload_n 2, 1) := by decide +kernel
theorem dX6_bindAll_149 : decode cX6_bindAll 149 = .ok (.getfield 82, 3) := by decide +kernel
theorem dX6_bindAll_152 : decode cX6_bindAll 152 = .ok (.iconst 0, 1) := by decide +kernel
theorem dX6_bindAll_153 : decode cX6_bindAll 153 = .ok (.iconst 0, 1) := by decide +kernel
theorem dX6_bindAll_154 : decode cX6_bindAll 154 = .ok (.invokevirtual 89, 3) := by decide +kernel
theorem dX6_bindAll_157 : decode cX6_bindAll 157 = .ok (.goto 61, 3) := by decide +kernel
theorem dX6_bindAll_160 : decode cX6_bindAll 160 = .ok (.aload_n 0, 1) := by decide +kernel
theorem dX6_bindAll_161 : decode cX6_bindAll 161 = .ok (.aload_n 0, 1) := by decide +kernel
theorem dX6_bindAll_162 : decode cX6_bindAll 162 = .ok (.getfield 34, 3) := by decide +kernel
theorem dX6_bindAll_165 : decode cX6_bindAll 165 = .ok (.getfield 93, 3) := by decide +kernel
theorem dX6_bindAll_168 : decode cX6_bindAll 168 = .ok (.aload_n 2, 1) := by decide +kernel
theorem dX6_bindAll_169 : decode cX6_bindAll 169 = .ok (.getfield 79, 3) := by decide +kernel
theorem dX6_bindAll_172 : decode cX6_bindAll 172 = .ok (.aaload, 1) := by decide +kernel
theorem dX6_bindAll_173 : decode cX6_bindAll 173 = .ok (.aload_n 0, 1) := by decide +kernel
theorem dX6_bindAll_174 : decode cX6_bindAll 174 = .ok (.getfield 34, 3) := by decide +kernel
theorem dX6_bindAll_177 : decode cX6_bindAll 177 = .ok (.getfield 93, 3) := by decide +kernel
theorem dX6_bindAll_180 : decode cX6_bindAll 180 = .ok (.aload_n 2, 1) := by decide +kernel
theorem dX6_bindAll_181 : decode cX6_bindAll 181 = .ok (.getfield 82, 3) := by decide +kernel
theorem dX6_bindAll_184 : decode cX6_bindAll 184 = .ok (.aaload, 1) := by decide +kernel
theorem dX6_bindAll_185 : decode cX6_bindAll 185 = .ok (.aload_n 2, 1) := by decide +kernel
theorem dX6_bindAll_186 : decode cX6_bindAll 186 = .ok (.getfield 85, 3) := by decide +kernel
theorem dX6_bindAll_189 : decode cX6_bindAll 189 = .ok (.invokevirtual 97, 3) := by decide +kernel
theorem dX6_bindAll_192 : decode cX6_bindAll 192 = .ok (.goto 26, 3) := by decide +kernel
theorem dX6_bindAll_195 : decode cX6_bindAll 195 = .ok (.aload_n 0, 1) := by decide +kernel
theorem dX6_bindAll_196 : decode cX6_bindAll 196 = .ok (.aload_n 0, 1) := by decide +kernel
theorem dX6_bindAll_197 : decode cX6_bindAll 197 = .ok (.getfield 34, 3) := by decide +kernel
theorem dX6_bindAll_200 : decode cX6_bindAll 200 = .ok (.getfield 93, 3) := by decide +kernel
theorem dX6_bindAll_203 : decode cX6_bindAll 203 = .ok (.aload_n 2, 1) := by decide +kernel
theorem dX6_bindAll_204 : decode cX6_bindAll 204 = .ok (.getfield 79, 3) := by decide +kernel
theorem dX6_bindAll_207 : decode cX6_bindAll 207 = .ok (.aaload, 1) := by decide +kernel
theorem dX6_bindAll_208 : decode cX6_bindAll 208 = .ok (.aload_n 2, 1) := by decide +kernel
theorem dX6_bindAll_209 : decode cX6_bindAll 209 = .ok (.getfield 85, 3) := by decide +kernel
theorem dX6_bindAll_212 : decode cX6_bindAll 212 = .ok (.invokevirtual 101, 3) := by decide +kernel
theorem dX6_bindAll_215 : decode cX6_bindAll 215 = .ok (.goto 3, 3) := by decide +kernel
theorem dX6_bindAll_218 : decode cX6_bindAll 218 = .ok (.iinc 1 1, 3) := by decide +kernel
theorem dX6_bindAll_221 : decode cX6_bindAll 221 = .ok (.goto (-165), 3) := by decide +kernel
theorem dX6_bindAll_224 : decode cX6_bindAll 224 = .ok (.return_, 1) := by decide +kernel
theorem dX6_bindInOrder_0 : decode cX6_bindInOrder 0 = .ok (.iconst 0, 1) := by decide +kernel
theorem dX6_bindInOrder_1 : decode cX6_bindInOrder 1 = .ok (.istore 4, 2) := by decide +kernel
theorem dX6_bindInOrder_3 : decode cX6_bindInOrder 3 = .ok (.iload 4, 2) := by decide +kernel
theorem dX6_bindInOrder_5 : decode cX6_bindInOrder 5 = .ok (.aload_n 1, 1) := by decide +kernel
theorem dX6_bindInOrder_6 : decode cX6_bindInOrder 6 = .ok (.getfield 105, 3) := by decide +kernel
theorem dX6_bindInOrder_9 : decode cX6_bindInOrder 9 = .ok (.if_icmp .ge 49, 3) := by decide +kernel
theorem dX6_bindInOrder_12 : decode cX6_bindInOrder 12 = .ok (.iconst 0, 1) := by decide +kernel
theorem dX6_bindInOrder_13 : decode cX6_bindInOrder 13 = .ok (.istore 5, 2) := by decide +kernel
theorem dX6_bindInOrder_15 : decode cX6_bindInOrder 15 = .ok (.iload 5, 2) := by decide +kernel
theorem dX6_bindInOrder_17 : decode cX6_bindInOrder 17 = .ok (.aload_n 2, 1) := by decide +kernel
theorem dX6_bindInOrder_18 : decode cX6_bindInOrder 18 = .ok (.getfield 105, 3) := by decide +kernel
theorem dX6_bindInOrder_21 : decode cX6_bindInOrder 21 = .ok (.if_icmp .ge 31, 3) := by decide +kernel
theorem dX6_bindInOrder_24 : decode cX6_bindInOrder 24 = .ok (.aload_n 0, 1) := by decide +kernel
theorem dX6_bindInOrder_25 : decode cX6_bindInOrder 25 = .ok (.aload_n 1, 1) := by decide +kernel
theorem dX6_bindInOrder_26 : decode cX6_bindInOrder 26 = .ok (.getfield 110, 3) := by decide +kernel
theorem dX6_bindInOrder_29 : decode cX6_bindInOrder 29 = .ok (.iload 4, 2) := by decide +kernel
theorem dX6_bindInOrder_31 : decode cX6_bindInOrder 31 = .ok (.iaload, 1) := by decide +kernel
theorem dX6_bindInOrder_32 : decode cX6_bindInOrder 32 = .ok (.aload_n 2, 1) := by decide +kernel
theorem dX6_bindInOrder_33 : decode cX6_bindInOrder 33 = .ok (.getfield 110, 3) := by decide +kernel
theorem dX6_bindInOrder_36 : decode cX6_bindInOrder 36 = .ok (.iload 5, 2) := by decide +kernel
theorem dX6_bindInOrder_38 : decode cX6_bindInOrder 38 = .ok (.iaload, 1) := by decide +kernel
theorem dX6_bindInOrder_39 : decode cX6_bindInOrder 39 = .ok (.iload_n 3, 1) := by decide +kernel
theorem dX6_bindInOrder_40 : decode cX6_bindInOrder 40 = .ok (.sipush 999, 3) := by decide +kernel
theorem dX6_bindInOrder_43 : decode cX6_bindInOrder 43 = .ok (.invokevirtual 89, 3) := by decide +kernel
theorem dX6_bindInOrder_46 : decode cX6_bindInOrder 46 = .ok (.iinc 5 1, 3) := by decide +kernel
theorem dX6_bindInOrder_49 : decode cX6_bindInOrder 49 = .ok (.goto (-34), 3) := by decide +kernel
theorem dX6_bindInOrder_52 : decode cX6_bindInOrder 52 = .ok (.iinc 4 1, 3) := by decide +kernel
theorem dX6_bindInOrder_55 : decode cX6_bindInOrder 55 = .ok (.goto (-52), 3) := by decide +kernel
theorem dX6_bindInOrder_58 : decode cX6_bindInOrder 58 = .ok (.return_, 1) := by decide +kernel
theorem dX6_bindTogether_0 : decode cX6_bindTogether 0 = .ok (.iconst 0, 1) := by decide +kernel
theorem dX6_bindTogether_1 : decode cX6_bindTogether 1 = .ok (.istore_n 3, 1) := by decide +kernel
theorem dX6_bindTogether_2 : decode cX6_bindTogether 2 = .ok (.iload_n 3, 1) := by decide +kernel
theorem dX6_bindTogether_3 : decode cX6_bindTogether 3 = .ok (.aload_n 1, 1) := by decide +kernel
theorem dX6_bindTogether_4 : decode cX6_bindTogether 4 = .ok (.getfield 105, 3) := by decide +kernel
theorem dX6_bindTogether_7 : decode cX6_bindTogether 7 = .ok (.if_icmp .ge 49, 3) := by decide +kernel
theorem dX6_bindTogether_10 : decode cX6_bindTogether 10 = .ok (.iload_n 3, 1) := by decide +kernel
theorem dX6_bindTogether_11 : decode cX6_bindTogether 11 = .ok (.iconst 1, 1) := by decide +kernel
theorem dX6_bindTogether_12 : decode cX6_bindTogether 12 = .ok (.iadd, 1) := by decide +kernel
theorem dX6_bindTogether_13 : decode cX6_bindTogether 13 = .ok (.istore 4, 2) := by decide +kernel
theorem dX6_bindTogether_15 : decode cX6_bindTogether 15 = .ok (.iload 4, 2) := by decide +kernel
theorem dX6_bindTogether_17 : decode cX6_bindTogether 17 = .ok (.aload_n 1, 1) := by decide +kernel
theorem dX6_bindTogether_18 : decode cX6_bindTogether 18 = .ok (.getfield 105, 3) := by decide +kernel
theorem dX6_bindTogether_21 : decode cX6_bindTogether 21 = .ok (.if_icmp .ge 29, 3) := by decide +kernel
theorem dX6_bindTogether_24 : decode cX6_bindTogether 24 = .ok (.aload_n 0, 1) := by decide +kernel
theorem dX6_bindTogether_25 : decode cX6_bindTogether 25 = .ok (.aload_n 1, 1) := by decide +kernel
theorem dX6_bindTogether_26 : decode cX6_bindTogether 26 = .ok (.getfield 110, 3) := by decide +kernel
theorem dX6_bindTogether_29 : decode cX6_bindTogether 29 = .ok (.iload_n 3, 1) := by decide +kernel
theorem dX6_bindTogether_30 : decode cX6_bindTogether 30 = .ok (.iaload, 1) := by decide +kernel
theorem dX6_bindTogether_31 : decode cX6_bindTogether 31 = .ok (.aload_n 1, 1) := by decide +kernel
theorem dX6_bindTogether_32 : decode cX6_bindTogether 32 = .ok (.getfield 110, 3) := by decide +kernel
theorem dX6_bindTogether_35 : decode cX6_bindTogether 35 = .ok (.iload 4, 2) := by decide +kernel
theorem dX6_bindTogether_37 : decode cX6_bindTogether 37 = .ok (.iaload, 1) := by decide +kernel
theorem dX6_bindTogether_38 : decode cX6_bindTogether 38 = .ok (.iload_n 2, 1) := by decide +kernel
theorem dX6_bindTogether_39 : decode cX6_bindTogether 39 = .ok (.ineg, 1) := by decide +kernel
theorem dX6_bindTogether_40 : decode cX6_bindTogether 40 = .ok (.iload_n 2, 1) := by decide +kernel
theorem dX6_bindTogether_41 : decode cX6_bindTogether 41 = .ok (.invokevirtual 89, 3) := by decide +kernel
theorem dX6_bindTogether_44 : decode cX6_bindTogether 44 = .ok (.iinc 4 1, 3) := by decide +kernel
theorem dX6_bindTogether_47 : decode cX6_bindTogether 47 = .ok (.goto (-32), 3) := by decide +kernel
theorem dX6_bindTogether_50 : decode cX6_bindTogether 50 = .ok (.iinc 3 1, 3) := by decide +kernel
theorem dX6_bindTogether_53 : decode cX6_bindTogether 53 = .ok (.goto (-51), 3) := by decide +kernel
theorem dX6_bindTogether_56 : decode cX6_bindTogether 56 = .ok (.return_, 1) := by decide +kernel
theorem dX6_bind_0 : decode cX6_bind 0 = .ok (.iload_n 1, 1) := by decide +kernel
theorem dX6_bind_1 : decode cX6_bind 1 = .ok (.iload_n 2, 1) := by decide +kernel
theorem dX6_bind_2 : decode cX6_bind 2 = .ok (.if_icmp .ge 47, 3) := by decide +kernel
theorem dX6_bind_5 : decode cX6_bind 5 = .ok (.aload_n 0, 1) := by decide +kernel
theorem dX6_bind_6 : decode cX6_bind 6 = .ok (.getfield 28, 3) := by decide +kernel
theorem dX6_bind_9 : decode cX6_bind 9 = .ok (.iload_n 2, 1) := by decide +kernel
theorem dX6_bind_10 : decode cX6_bind 10 = .ok (.aaload, 1) := by decide +kernel
theorem dX6_bind_11 : decode cX6_bind 11 = .ok (.iload_n 1, 1) := by decide +kernel
theorem dX6_bind_12 : decode cX6_bind 12 = .ok (.aload_n 0, 1) := by decide +kernel
theorem dX6_bind_13 : decode cX6_bind 13 = .ok (.getfield 28, 3) := by decide +kernel
theorem dX6_bind_16 : decode cX6_bind 16 = .ok (.iload_n 2, 1) := by decide +kernel
theorem dX6_bind_17 : decode cX6_bind 17 = .ok (.aaload, 1) := by decide +kernel
theorem dX6_bind_18 : decode cX6_bind 18 = .ok (.iload_n 1, 1) := by decide +kernel
theorem dX6_bind_19 : decode cX6_bind 19 = .ok (.iaload, 1) := by decide +kernel
theorem dX6_bind_20 : decode cX6_bind 20 = .ok (.iload_n 3, 1) := by decide +kernel
theorem dX6_bind_21 : decode cX6_bind 21 = .ok (.invokestatic 113, 3) := by decide +kernel
theorem dX6_bind_24 : decode cX6_bind 24 = .ok (.iastore, 1) := by decide +kernel
theorem dX6_bind_25 : decode cX6_bind 25 = .ok (.aload_n 0, 1) := by decide +kernel
theorem dX6_bind_26 : decode cX6_bind 26 = .ok (.getfield 31, 3) := by decide +kernel
theorem dX6_bind_29 : decode cX6_bind 29 = .ok (.iload_n 2, 1) := by decide +kernel
theorem dX6_bind_30 : decode cX6_bind 30 = .ok (.aaload, 1) := by decide +kernel
theorem dX6_bind_31 : decode cX6_bind 31 = .ok (.iload_n 1, 1) := by decide +kernel
theorem dX6_bind_32 : decode cX6_bind 32 = .ok (.aload_n 0, 1) := by decide +kernel
theorem dX6_bind_33 : decode cX6_bind 33 = .ok (.getfield 31, 3) := by decide +kernel
theorem dX6_bind_36 : decode cX6_bind 36 = .ok (.iload_n 2, 1) := by decide +kernel
theorem dX6_bind_37 : decode cX6_bind 37 = .ok (.aaload, 1) := by decide +kernel
theorem dX6_bind_38 : decode cX6_bind 38 = .ok (.iload_n 1, 1) := by decide +kernel
theorem dX6_bind_39 : decode cX6_bind 39 = .ok (.iaload, 1) := by decide +kernel
theorem dX6_bind_40 : decode cX6_bind 40 = .ok (.iload 4, 2) := by decide +kernel
theorem dX6_bind_42 : decode cX6_bind 42 = .ok (.invokestatic 119, 3) := by decide +kernel
theorem dX6_bind_45 : decode cX6_bind 45 = .ok (.iastore, 1) := by decide +kernel
theorem dX6_bind_46 : decode cX6_bind 46 = .ok (.goto 51, 3) := by decide +kernel
theorem dX6_bind_49 : decode cX6_bind 49 = .ok (.iload_n 1, 1) := by decide +kernel
theorem dX6_bind_50 : decode cX6_bind 50 = .ok (.iload_n 2, 1) := by decide +kernel
theorem dX6_bind_51 : decode cX6_bind 51 = .ok (.if_icmp .le 46, 3) := by decide +kernel
theorem dX6_bind_54 : decode cX6_bind 54 = .ok (.aload_n 0, 1) := by decide +kernel
theorem dX6_bind_55 : decode cX6_bind 55 = .ok (.getfield 28, 3) := by decide +kernel
theorem dX6_bind_58 : decode cX6_bind 58 = .ok (.iload_n 1, 1) := by decide +kernel
theorem dX6_bind_59 : decode cX6_bind 59 = .ok (.aaload, 1) := by decide +kernel
theorem dX6_bind_60 : decode cX6_bind 60 = .ok (.iload_n 2, 1) := by decide +kernel
theorem dX6_bind_61 : decode cX6_bind 61 = .ok (.aload_n 0, 1) := by decide +kernel
theorem dX6_bind_62 : decode cX6_bind 62 = .ok (.getfield 28, 3) := by decide +kernel
theorem dX6_bind_65 : decode cX6_bind 65 = .ok (.iload_n 1, 1) := by decide +kernel
theorem dX6_bind_66 : decode cX6_bind 66 = .ok (.aaload, 1) := by decide +kernel
theorem dX6_bind_67 : decode cX6_bind 67 = .ok (.iload_n 2, 1) := by decide +kernel
theorem dX6_bind_68 : decode cX6_bind 68 = .ok (.iaload, 1) := by decide +kernel
theorem dX6_bind_69 : decode cX6_bind 69 = .ok (.iload 4, 2) := by decide +kernel
theorem dX6_bind_71 : decode cX6_bind 71 = .ok (.ineg, 1) := by decide +kernel
theorem dX6_bind_72 : decode cX6_bind 72 = .ok (.invokestatic 113, 3) := by decide +kernel
theorem dX6_bind_75 : decode cX6_bind 75 = .ok (.iastore, 1) := by decide +kernel
theorem dX6_bind_76 : decode cX6_bind 76 = .ok (.aload_n 0, 1) := by decide +kernel
theorem dX6_bind_77 : decode cX6_bind 77 = .ok (.getfield 31, 3) := by decide +kernel
theorem dX6_bind_80 : decode cX6_bind 80 = .ok (.iload_n 1, 1) := by decide +kernel
theorem dX6_bind_81 : decode cX6_bind 81 = .ok (.aaload, 1) := by decide +kernel
theorem dX6_bind_82 : decode cX6_bind 82 = .ok (.iload_n 2, 1) := by decide +kernel
theorem dX6_bind_83 : decode cX6_bind 83 = .ok (.aload_n 0, 1) := by decide +kernel
theorem dX6_bind_84 : decode cX6_bind 84 = .ok (.getfield 31, 3) := by decide +kernel
theorem dX6_bind_87 : decode cX6_bind 87 = .ok (.iload_n 1, 1) := by decide +kernel
theorem dX6_bind_88 : decode cX6_bind 88 = .ok (.aaload, 1) := by decide +kernel
theorem dX6_bind_89 : decode cX6_bind 89 = .ok (.iload_n 2, 1) := by decide +kernel
theorem dX6_bind_90 : decode cX6_bind 90 = .ok (.iaload, 1) := by decide +kernel
theorem dX6_bind_91 : decode cX6_bind 91 = .ok (.iload_n 3, 1) := by decide +kernel
theorem dX6_bind_92 : decode cX6_bind 92 = .ok (.ineg, 1) := by decide +kernel
theorem dX6_bind_93 : decode cX6_bind 93 = .ok (.invokestatic 119, 3) := by decide +kernel
theorem dX6_bind_96 : decode cX6_bind 96 = .ok (.iastore, 1) := by decide +kernel
theorem dX6_bind_97 : decode cX6_bind 97 = .ok (.return_, 1) := by decide +kernel
theorem dX7_clear_0 : decode cX7_clear 0 = .ok (.iconst 0, 1) := by decide +kernel
theorem dX7_clear_1 : decode cX7_clear 1 = .ok (.istore_n 1, 1) := by decide +kernel
theorem dX7_clear_2 : decode cX7_clear 2 = .ok (.iload_n 1, 1) := by decide +kernel
theorem dX7_clear_3 : decode cX7_clear 3 = .ok (.bipush 16, 2) := by decide +kernel
theorem dX7_clear_5 : decode cX7_clear 5 = .ok (.if_icmp .ge 13, 3) := by decide +kernel
theorem dX7_clear_8 : decode cX7_clear 8 = .ok (.aload_n 0, 1) := by decide +kernel
theorem dX7_clear_9 : decode cX7_clear 9 = .ok (.iload_n 1, 1) := by decide +kernel
theorem dX7_clear_10 : decode cX7_clear 10 = .ok (.lconst 0, 1) := by decide +kernel
theorem dX7_clear_11 : decode cX7_clear 11 = .ok (.lastore, 1) := by decide +kernel
theorem dX7_clear_12 : decode cX7_clear 12 = .ok (.iinc 1 1, 3) := by decide +kernel
theorem dX7_clear_15 : decode cX7_clear 15 = .ok (.goto (-13), 3) := by decide +kernel
theorem dX7_clear_18 : decode cX7_clear 18 = .ok (.return_, 1) := by decide +kernel
theorem dX7_has_0 : decode cX7_has 0 = .ok (.aload_n 0, 1) := by decide +kernel
theorem dX7_has_1 : decode cX7_has 1 = .ok (.iload_n 1, 1) := by decide +kernel
theorem dX7_has_2 : decode cX7_has 2 = .ok (.bipush 6, 2) := by decide +kernel
theorem dX7_has_4 : decode cX7_has 4 = .ok (.ishr, 1) := by decide +kernel
theorem dX7_has_5 : decode cX7_has 5 = .ok (.laload, 1) := by decide +kernel
theorem dX7_has_6 : decode cX7_has 6 = .ok (.iload_n 1, 1) := by decide +kernel
theorem dX7_has_7 : decode cX7_has 7 = .ok (.bipush 63, 2) := by decide +kernel
theorem dX7_has_9 : decode cX7_has 9 = .ok (.iand, 1) := by decide +kernel
theorem dX7_has_10 : decode cX7_has 10 = .ok (.lushr, 1) := by decide +kernel
theorem dX7_has_11 : decode cX7_has 11 = .ok (.lconst 1, 1) := by decide +kernel
theorem dX7_has_12 : decode cX7_has 12 = .ok (.land, 1) := by decide +kernel
theorem dX7_has_13 : decode cX7_has 13 = .ok (.lconst 0, 1) := by decide +kernel
theorem dX7_has_14 : decode cX7_has 14 = .ok (.lcmp, 1) := by decide +kernel
theorem dX7_has_15 : decode cX7_has 15 = .ok (.ifCond .eq 7, 3) := by decide +kernel
theorem dX7_has_18 : decode cX7_has 18 = .ok (.iconst 1, 1) := by decide +kernel
theorem dX7_has_19 : decode cX7_has 19 = .ok (.goto 4, 3) := by decide +kernel
theorem dX7_has_22 : decode cX7_has 22 = .ok (.iconst 0, 1) := by decide +kernel
theorem dX7_has_23 : decode cX7_has 23 = .ok (.ireturn, 1) := by decide +kernel
theorem dX7_put_0 : decode cX7_put 0 = .ok (.aload_n 0, 1) := by decide +kernel
theorem dX7_put_1 : decode cX7_put 1 = .ok (.iload_n 1, 1) := by decide +kernel
theorem dX7_put_2 : decode cX7_put 2 = .ok (.bipush 6, 2) := by decide +kernel
theorem dX7_put_4 : decode cX7_put 4 = .ok (.ishr, 1) := by decide +kernel
theorem dX7_put_5 : decode cX7_put 5 = .ok (.dup2, 1) := by decide +kernel
theorem dX7_put_6 : decode cX7_put 6 = .ok (.laload, 1) := by decide +kernel
theorem dX7_put_7 : decode cX7_put 7 = .ok (.lconst 1, 1) := by decide +kernel
theorem dX7_put_8 : decode cX7_put 8 = .ok (.iload_n 1, 1) := by decide +kernel
theorem dX7_put_9 : decode cX7_put 9 = .ok (.bipush 63, 2) := by decide +kernel
theorem dX7_put_11 : decode cX7_put 11 = .ok (.iand, 1) := by decide +kernel
theorem dX7_put_12 : decode cX7_put 12 = .ok (.lshl, 1) := by decide +kernel
theorem dX7_put_13 : decode cX7_put 13 = .ok (.lor, 1) := by decide +kernel
theorem dX7_put_14 : decode cX7_put 14 = .ok (.lastore, 1) := by decide +kernel
theorem dX7_put_15 : decode cX7_put 15 = .ok (.return_, 1) := by decide +kernel
theorem dX7_count_0 : decode cX7_count 0 = .ok (.iconst 0, 1) := by decide +kernel
theorem dX7_count_1 : decode cX7_count 1 = .ok (.istore_n 1, 1) := by decide +kernel
theorem dX7_count_2 : decode cX7_count 2 = .ok (.iconst 0, 1) := by decide +kernel
theorem dX7_count_3 : decode cX7_count 3 = .ok (.istore_n 2, 1) := by decide +kernel
theorem dX7_count_4 : decode cX7_count 4 = .ok (.iload_n 2, 1) := by decide +kernel
theorem dX7_count_5 : decode cX7_count 5 = .ok (.bipush 16, 2) := by decide +kernel
theorem dX7_count_7 : decode cX7_count 7 = .ok (.if_icmp .ge 18, 3) := by decide +kernel
theorem dX7_count_10 : decode cX7_count 10 = .ok (.iload_n 1, 1) := by decide +kernel
theorem dX7_count_11 : decode cX7_count 11 = .ok (.aload_n 0, 1) := by decide +kernel
theorem dX7_count_12 : decode cX7_count 12 = .ok (.iload_n 2, 1) := by decide +kernel
theorem dX7_count_13 : decode cX7_count 13 = .ok (.laload, 1) := by decide +kernel
theorem dX7_count_14 : decode cX7_count 14 = .ok (.invokestatic 9, 3) := by decide +kernel
theorem dX7_count_17 : decode cX7_count 17 = .ok (.iadd, 1) := by decide +kernel
theorem dX7_count_18 : decode cX7_count 18 = .ok (.istore_n 1, 1) := by decide +kernel
theorem dX7_count_19 : decode cX7_count 19 = .ok (.iinc 2 1, 3) := by decide +kernel
theorem dX7_count_22 : decode cX7_count 22 = .ok (.goto (-18), 3) := by decide +kernel
theorem dX7_count_25 : decode cX7_count 25 = .ok (.iload_n 1, 1) := by decide +kernel
theorem dX7_count_26 : decode cX7_count 26 = .ok (.ireturn, 1) := by decide +kernel
theorem dX7_putAll_0 : decode cX7_putAll 0 = .ok (.iload_n 1, 1) := by decide +kernel
theorem dX7_putAll_1 : decode cX7_putAll 1 = .ok (.iconst 0, 1) := by decide +kernel
theorem dX7_putAll_2 : decode cX7_putAll 2 = .ok (.invokestatic 15, 3) := by decide +kernel
theorem dX7_putAll_5 : decode cX7_putAll 5 = .ok (.istore_n 3, 1) := by decide +kernel
theorem dX7_putAll_6 : decode cX7_putAll 6 = .ok (.iload_n 2, 1) := by decide +kernel
theorem dX7_putAll_7 : decode cX7_putAll 7 = .ok (.sipush 999, 3) := by decide +kernel
theorem dX7_putAll_10 : decode cX7_putAll 10 = .ok (.invokestatic 21, 3) := by decide +kernel
theorem dX7_putAll_13 : decode cX7_putAll 13 = .ok (.istore 4, 2) := by decide +kernel
theorem dX7_putAll_15 : decode cX7_putAll 15 = .ok (.iload_n 3, 1) := by decide +kernel
theorem dX7_putAll_16 : decode cX7_putAll 16 = .ok (.iload 4, 2) := by decide +kernel
theorem dX7_putAll_18 : decode cX7_putAll 18 = .ok (.if_icmp .le 4, 3) := by decide +kernel
theorem dX7_putAll_21 : decode cX7_putAll 21 = .ok (.return_, 1) := by decide +kernel
theorem dX7_putAll_22 : decode cX7_putAll 22 = .ok (.iload_n 3, 1) := by decide +kernel
theorem dX7_putAll_23 : decode cX7_putAll 23 = .ok (.bipush 6, 2) := by decide +kernel
theorem dX7_putAll_25 : decode cX7_putAll 25 = .ok (.ishr, 1) := by decide +kernel
theorem dX7_putAll_26 : decode cX7_putAll 26 = .ok (.istore 5, 2) := by decide +kernel
theorem dX7_putAll_28 : decode cX7_putAll 28 = .ok (.iload 4, 2) := by decide +kernel
theorem dX7_putAll_30 : decode cX7_putAll 30 = .ok (.bipush 6, 2) := by decide +kernel
theorem dX7_putAll_32 : decode cX7_putAll 32 = .ok (.ishr, 1) := by decide +kernel
theorem dX7_putAll_33 : decode cX7_putAll 33 = .ok (.istore 6, 2) := by decide +kernel
theorem dX7_putAll_35 : decode cX7_putAll 35 = .ok (.iload 5, 2) := by decide +kernel
theorem dX7_putAll_37 : decode cX7_putAll 37 = .ok (.istore 7, 2) := by decide +kernel
theorem dX7_putAll_39 : decode cX7_putAll 39 = .ok (.iload 7, 2) := by decide +kernel
theorem dX7_putAll_41 : decode cX7_putAll 41 = .ok (.iload 6, 2) := by decide +kernel
theorem dX7_putAll_43 : decode cX7_putAll 43 = .ok (.if_icmp .gt 71, 3) := by decide +kernel
theorem dX7_putAll_46 : decode cX7_putAll 46 = .ok (.iload 7, 2) := by decide +kernel
theorem dX7_putAll_48 : decode cX7_putAll 48 = .ok (.iload 5, 2) := by decide +kernel
theorem dX7_putAll_50 : decode cX7_putAll 50 = .ok (.if_icmp .ne 14, 3) := by decide +kernel
theorem dX7_putAll_53 : decode cX7_putAll 53 = .ok (.ldc2_w 24, 3) := by decide +kernel
theorem dX7_putAll_56 : decode cX7_putAll 56 = .ok (.iload_n 3, 1) := by decide +kernel
theorem dX7_putAll_57 : decode cX7_putAll 57 = .ok (.bipush 63, 2) := by decide +kernel
theorem dX7_putAll_59 : decode cX7_putAll 59 = .ok (.iand, 1) := by decide +kernel
theorem dX7_putAll_60 : decode cX7_putAll 60 = .ok (.lshl, 1) := by decide +kernel
theorem dX7_putAll_61 : decode cX7_putAll 61 = .ok (.goto 6, 3) := by decide +kernel
theorem dX7_putAll_64 : decode cX7_putAll 64 = .ok (.ldc2_w 24, 3) := by decide +kernel
theorem dX7_putAll_67 : decode cX7_putAll 67 = .ok (.lstore 8, 2) := by decide +kernel
theorem dX7_putAll_69 : decode cX7_putAll 69 = .ok (.iload 7, 2) := by decide +kernel
theorem dX7_putAll_71 : decode cX7_putAll 71 = .ok (.iload 6, 2) := by decide +kernel
theorem dX7_putAll_73 : decode cX7_putAll 73 = .ok (.if_icmp .ne 18, 3) := by decide +kernel
theorem dX7_putAll_76 : decode cX7_putAll 76 = .ok (.ldc2_w 24, 3) := by decide +kernel
theorem dX7_putAll_79 : decode cX7_putAll 79 = .ok (.bipush 63, 2) := by decide +kernel
theorem dX7_putAll_81 : decode cX7_putAll 81 = .ok (.iload 4, 2) := by decide +kernel
theorem dX7_putAll_83 : decode cX7_putAll 83 = .ok (.bipush 63, 2) := by decide +kernel
theorem dX7_putAll_85 : decode cX7_putAll 85 = .ok (.iand, 1) := by decide +kernel
theorem dX7_putAll_86 : decode cX7_putAll 86 = .ok (.isub, 1) := by decide +kernel
theorem dX7_putAll_87 : decode cX7_putAll 87 = .ok (.lushr, 1) := by decide +kernel
theorem dX7_putAll_88 : decode cX7_putAll 88 = .ok (.goto 6, 3) := by decide +kernel
theorem dX7_putAll_91 : decode cX7_putAll 91 = .ok (.ldc2_w 24, 3) := by decide +kernel
theorem dX7_putAll_94 : decode cX7_putAll 94 = .ok (.lstore 10, 2) := by decide +kernel
theorem dX7_putAll_96 : decode cX7_putAll 96 = .ok (.aload_n 0, 1) := by decide +kernel
theorem dX7_putAll_97 : decode cX7_putAll 97 = .ok (.iload 7, 2) := by decide +kernel
theorem dX7_putAll_99 : decode cX7_putAll 99 = .ok (.dup2, 1) := by decide +kernel
theorem dX7_putAll_100 : decode cX7_putAll 100 = .ok (.laload, 1) := by decide +kernel
theorem dX7_putAll_101 : decode cX7_putAll 101 = .ok (.lload 8, 2) := by decide +kernel
theorem dX7_putAll_103 : decode cX7_putAll 103 = .ok (.lload 10, 2) := by decide +kernel
theorem dX7_putAll_105 : decode cX7_putAll 105 = .ok (.land, 1) := by decide +kernel
theorem dX7_putAll_106 : decode cX7_putAll 106 = .ok (.lor, 1) := by decide +kernel
theorem dX7_putAll_107 : decode cX7_putAll 107 = .ok (.lastore, 1) := by decide +kernel
theorem dX7_putAll_108 : decode cX7_putAll 108 = .ok (.iinc 7 1, 3) := by decide +kernel
theorem dX7_putAll_111 : decode cX7_putAll 111 = .ok (.goto (-72), 3) := by decide +kernel
theorem dX7_putAll_114 : decode cX7_putAll 114 = .ok (.return_, 1) := by decide +kernel
theorem dX7_nextIn_0 : decode cX7_nextIn 0 = .ok (.iload_n 1, 1) := by decide +kernel
theorem dX7_nextIn_1 : decode cX7_nextIn 1 = .ok (.sipush 1000, 3) := by decide +kernel
theorem dX7_nextIn_4 : decode cX7_nextIn 4 = .ok (.if_icmp .lt 7, 3) := by decide +kernel
theorem dX7_nextIn_7 : decode cX7_nextIn 7 = .ok (.sipush 1000, 3) := by decide +kernel
theorem dX7_nextIn_10 : decode cX7_nextIn 10 = .ok (.ireturn, 1) := by decide +kernel
theorem dX7_nextIn_11 : decode cX7_nextIn 11 = .ok (.aload_n 0, 1) := by decide +kernel
theorem dX7_nextIn_12 : decode cX7_nextIn 12 = .ok (.iload_n 1, 1) := by decide +kernel
theorem dX7_nextIn_13 : decode cX7_nextIn 13 = .ok (.bipush 6, 2) := by decide +kernel
theorem dX7_nextIn_15 : decode cX7_nextIn 15 = .ok (.ishr, 1) := by decide +kernel
theorem dX7_nextIn_16 : decode cX7_nextIn 16 = .ok (.laload, 1) := by decide +kernel
theorem dX7_nextIn_17 : decode cX7_nextIn 17 = .ok (.ldc2_w 24, 3) := by decide +kernel
theorem dX7_nextIn_20 : decode cX7_nextIn 20 = .ok (.iload_n 1, 1) := by decide +kernel
theorem dX7_nextIn_21 : decode cX7_nextIn 21 = .ok (.bipush 63, 2) := by decide +kernel
theorem dX7_nextIn_23 : decode cX7_nextIn 23 = .ok (.iand, 1) := by decide +kernel
theorem dX7_nextIn_24 : decode cX7_nextIn 24 = .ok (.lshl, 1) := by decide +kernel
theorem dX7_nextIn_25 : decode cX7_nextIn 25 = .ok (.land, 1) := by decide +kernel
theorem dX7_nextIn_26 : decode cX7_nextIn 26 = .ok (.lstore_n 2, 1) := by decide +kernel
theorem dX7_nextIn_27 : decode cX7_nextIn 27 = .ok (.iload_n 1, 1) := by decide +kernel
theorem dX7_nextIn_28 : decode cX7_nextIn 28 = .ok (.bipush 6, 2) := by decide +kernel
theorem dX7_nextIn_30 : decode cX7_nextIn 30 = .ok (.ishr, 1) := by decide +kernel
theorem dX7_nextIn_31 : decode cX7_nextIn 31 = .ok (.istore 4, 2) := by decide +kernel
theorem dX7_nextIn_33 : decode cX7_nextIn 33 = .ok (.iload 4, 2) := by decide +kernel
theorem dX7_nextIn_35 : decode cX7_nextIn 35 = .ok (.bipush 16, 2) := by decide +kernel
theorem dX7_nextIn_37 : decode cX7_nextIn 37 = .ok (.if_icmp .ge 44, 3) := by decide +kernel
theorem dX7_nextIn_40 : decode cX7_nextIn 40 = .ok (.iload 4, 2) := by decide +kernel
theorem dX7_nextIn_42 : decode cX7_nextIn 42 = .ok (.iload_n 1, 1) := by decide +kernel
theorem dX7_nextIn_43 : decode cX7_nextIn 43 = .ok (.bipush 6, 2) := by decide +kernel
theorem dX7_nextIn_45 : decode cX7_nextIn 45 = .ok (.ishr, 1) := by decide +kernel
theorem dX7_nextIn_46 : decode cX7_nextIn 46 = .ok (.if_icmp .ne 7, 3) := by decide +kernel
theorem dX7_nextIn_49 : decode cX7_nextIn 49 = .ok (.lload_n 2, 1) := by decide +kernel
theorem dX7_nextIn_50 : decode cX7_nextIn 50 = .ok (.goto 7, 3) := by decide +kernel
theorem dX7_nextIn_53 : decode cX7_nextIn 53 = .ok (.aload_n 0, 1) := by decide +kernel
theorem dX7_nextIn_54 : decode cX7_nextIn 54 = .ok (.iload 4, 2) := by decide +kernel
theorem dX7_nextIn_56 : decode cX7_nextIn 56 = .ok (.laload, 1) := by decide +kernel
theorem dX7_nextIn_57 : decode cX7_nextIn 57 = .ok (.lstore_n 2, 1) := by decide +kernel
theorem dX7_nextIn_58 : decode cX7_nextIn 58 = .ok (.lload_n 2, 1) := by decide +kernel
theorem dX7_nextIn_59 : decode cX7_nextIn 59 = .ok (.lconst 0, 1) := by decide +kernel
theorem dX7_nextIn_60 : decode cX7_nextIn 60 = .ok (.lcmp, 1) := by decide +kernel
theorem dX7_nextIn_61 : decode cX7_nextIn 61 = .ok (.ifCond .eq 14, 3) := by decide +kernel
theorem dX7_nextIn_64 : decode cX7_nextIn 64 = .ok (.bipush 64, 2) := by decide +kernel
theorem dX7_nextIn_66 : decode cX7_nextIn 66 = .ok (.iload 4, 2) := by decide +kernel
theorem dX7_nextIn_68 : decode cX7_nextIn 68 = .ok (.imul, 1) := by decide +kernel
theorem dX7_nextIn_69 : decode cX7_nextIn 69 = .ok (.lload_n 2, 1) := by decide +kernel
theorem dX7_nextIn_70 : decode cX7_nextIn 70 = .ok (.invokestatic 26, 3) := by decide +kernel
theorem dX7_nextIn_73 : decode cX7_nextIn 73 = .ok (.iadd, 1) := by decide +kernel
theorem dX7_nextIn_74 : decode cX7_nextIn 74 = .ok (.ireturn, 1) := by decide +kernel
theorem dX7_nextIn_75 : decode cX7_nextIn 75 = .ok (.iinc 4 1, 3) := by decide +kernel
theorem dX7_nextIn_78 : decode cX7_nextIn 78 = .ok (.goto (-45), 3) := by decide +kernel
theorem dX7_nextIn_81 : decode cX7_nextIn 81 = .ok (.sipush 1000, 3) := by decide +kernel
theorem dX7_nextIn_84 : decode cX7_nextIn 84 = .ok (.ireturn, 1) := by decide +kernel
theorem dX7_nextOut_0 : decode cX7_nextOut 0 = .ok (.iload_n 1, 1) := by decide +kernel
theorem dX7_nextOut_1 : decode cX7_nextOut 1 = .ok (.sipush 1000, 3) := by decide +kernel
theorem dX7_nextOut_4 : decode cX7_nextOut 4 = .ok (.if_icmp .lt 7, 3) := by decide +kernel
theorem dX7_nextOut_7 : decode cX7_nextOut 7 = .ok (.sipush 1000, 3) := by decide +kernel
theorem dX7_nextOut_10 : decode cX7_nextOut 10 = .ok (.ireturn, 1) := by decide +kernel
theorem dX7_nextOut_11 : decode cX7_nextOut 11 = .ok (.aload_n 0, 1) := by decide +kernel
theorem dX7_nextOut_12 : decode cX7_nextOut 12 = .ok (.iload_n 1, 1) := by decide +kernel
theorem dX7_nextOut_13 : decode cX7_nextOut 13 = .ok (.bipush 6, 2) := by decide +kernel
theorem dX7_nextOut_15 : decode cX7_nextOut 15 = .ok (.ishr, 1) := by decide +kernel
theorem dX7_nextOut_16 : decode cX7_nextOut 16 = .ok (.laload, 1) := by decide +kernel
theorem dX7_nextOut_17 : decode cX7_nextOut 17 = .ok (.ldc2_w 24, 3) := by decide +kernel
theorem dX7_nextOut_20 : decode cX7_nextOut 20 = .ok (.lxor, 1) := by decide +kernel
theorem dX7_nextOut_21 : decode cX7_nextOut 21 = .ok (.ldc2_w 24, 3) := by decide +kernel
theorem dX7_nextOut_24 : decode cX7_nextOut 24 = .ok (.iload_n 1, 1) := by decide +kernel
theorem dX7_nextOut_25 : decode cX7_nextOut 25 = .ok (.bipush 63, 2) := by decide +kernel
theorem dX7_nextOut_27 : decode cX7_nextOut 27 = .ok (.iand, 1) := by decide +kernel
theorem dX7_nextOut_28 : decode cX7_nextOut 28 = .ok (.lshl, 1) := by decide +kernel
theorem dX7_nextOut_29 : decode cX7_nextOut 29 = .ok (.land, 1) := by decide +kernel
theorem dX7_nextOut_30 : decode cX7_nextOut 30 = .ok (.lstore_n 2, 1) := by decide +kernel
theorem dX7_nextOut_31 : decode cX7_nextOut 31 = .ok (.iload_n 1, 1) := by decide +kernel
theorem dX7_nextOut_32 : decode cX7_nextOut 32 = .ok (.bipush 6, 2) := by decide +kernel
theorem dX7_nextOut_34 : decode cX7_nextOut 34 = .ok (.ishr, 1) := by decide +kernel
theorem dX7_nextOut_35 : decode cX7_nextOut 35 = .ok (.istore 4, 2) := by decide +kernel
theorem dX7_nextOut_37 : decode cX7_nextOut 37 = .ok (.iload 4, 2) := by decide +kernel
theorem dX7_nextOut_39 : decode cX7_nextOut 39 = .ok (.bipush 16, 2) := by decide +kernel
theorem dX7_nextOut_41 : decode cX7_nextOut 41 = .ok (.if_icmp .ge 54, 3) := by decide +kernel
theorem dX7_nextOut_44 : decode cX7_nextOut 44 = .ok (.iload 4, 2) := by decide +kernel
theorem dX7_nextOut_46 : decode cX7_nextOut 46 = .ok (.iload_n 1, 1) := by decide +kernel
theorem dX7_nextOut_47 : decode cX7_nextOut 47 = .ok (.bipush 6, 2) := by decide +kernel
theorem dX7_nextOut_49 : decode cX7_nextOut 49 = .ok (.ishr, 1) := by decide +kernel
theorem dX7_nextOut_50 : decode cX7_nextOut 50 = .ok (.if_icmp .ne 7, 3) := by decide +kernel
theorem dX7_nextOut_53 : decode cX7_nextOut 53 = .ok (.lload_n 2, 1) := by decide +kernel
theorem dX7_nextOut_54 : decode cX7_nextOut 54 = .ok (.goto 11, 3) := by decide +kernel
theorem dX7_nextOut_57 : decode cX7_nextOut 57 = .ok (.aload_n 0, 1) := by decide +kernel
theorem dX7_nextOut_58 : decode cX7_nextOut 58 = .ok (.iload 4, 2) := by decide +kernel
theorem dX7_nextOut_60 : decode cX7_nextOut 60 = .ok (.laload, 1) := by decide +kernel
theorem dX7_nextOut_61 : decode cX7_nextOut 61 = .ok (.ldc2_w 24, 3) := by decide +kernel
theorem dX7_nextOut_64 : decode cX7_nextOut 64 = .ok (.lxor, 1) := by decide +kernel
theorem dX7_nextOut_65 : decode cX7_nextOut 65 = .ok (.lstore_n 2, 1) := by decide +kernel
theorem dX7_nextOut_66 : decode cX7_nextOut 66 = .ok (.lload_n 2, 1) := by decide +kernel
theorem dX7_nextOut_67 : decode cX7_nextOut 67 = .ok (.lconst 0, 1) := by decide +kernel
theorem dX7_nextOut_68 : decode cX7_nextOut 68 = .ok (.lcmp, 1) := by decide +kernel
theorem dX7_nextOut_69 : decode cX7_nextOut 69 = .ok (.ifCond .eq 20, 3) := by decide +kernel
theorem dX7_nextOut_72 : decode cX7_nextOut 72 = .ok (.sipush 1000, 3) := by decide +kernel
theorem dX7_nextOut_75 : decode cX7_nextOut 75 = .ok (.bipush 64, 2) := by decide +kernel
theorem dX7_nextOut_77 : decode cX7_nextOut 77 = .ok (.iload 4, 2) := by decide +kernel
theorem dX7_nextOut_79 : decode cX7_nextOut 79 = .ok (.imul, 1) := by decide +kernel
theorem dX7_nextOut_80 : decode cX7_nextOut 80 = .ok (.lload_n 2, 1) := by decide +kernel
theorem dX7_nextOut_81 : decode cX7_nextOut 81 = .ok (.invokestatic 26, 3) := by decide +kernel
theorem dX7_nextOut_84 : decode cX7_nextOut 84 = .ok (.iadd, 1) := by decide +kernel
theorem dX7_nextOut_85 : decode cX7_nextOut 85 = .ok (.invokestatic 21, 3) := by decide +kernel
theorem dX7_nextOut_88 : decode cX7_nextOut 88 = .ok (.ireturn, 1) := by decide +kernel
theorem dX7_nextOut_89 : decode cX7_nextOut 89 = .ok (.iinc 4 1, 3) := by decide +kernel
theorem dX7_nextOut_92 : decode cX7_nextOut 92 = .ok (.goto (-55), 3) := by decide +kernel
theorem dX7_nextOut_95 : decode cX7_nextOut 95 = .ok (.sipush 1000, 3) := by decide +kernel
theorem dX7_nextOut_98 : decode cX7_nextOut 98 = .ok (.ireturn, 1) := by decide +kernel
theorem dX7_intervals_0 : decode cX7_intervals 0 = .ok (.iconst 0, 1) := by decide +kernel
theorem dX7_intervals_1 : decode cX7_intervals 1 = .ok (.istore_n 1, 1) := by decide +kernel
theorem dX7_intervals_2 : decode cX7_intervals 2 = .ok (.aload_n 0, 1) := by decide +kernel
theorem dX7_intervals_3 : decode cX7_intervals 3 = .ok (.iconst 0, 1) := by decide +kernel
theorem dX7_intervals_4 : decode cX7_intervals 4 = .ok (.invokestatic 29, 3) := by decide +kernel
theorem dX7_intervals_7 : decode cX7_intervals 7 = .ok (.istore_n 2, 1) := by decide +kernel
theorem dX7_intervals_8 : decode cX7_intervals 8 = .ok (.iconst 0, 1) := by decide +kernel
theorem dX7_intervals_9 : decode cX7_intervals 9 = .ok (.istore_n 3, 1) := by decide +kernel
theorem dX7_intervals_10 : decode cX7_intervals 10 = .ok (.iload_n 3, 1) := by decide +kernel
theorem dX7_intervals_11 : decode cX7_intervals 11 = .ok (.sipush 1000, 3) := by decide +kernel
theorem dX7_intervals_14 : decode cX7_intervals 14 = .ok (.if_icmp .ge 29, 3) := by decide +kernel
theorem dX7_intervals_17 : decode cX7_intervals 17 = .ok (.iload_n 2, 1) := by decide +kernel
theorem dX7_intervals_18 : decode cX7_intervals 18 = .ok (.sipush 1000, 3) := by decide +kernel
theorem dX7_intervals_21 : decode cX7_intervals 21 = .ok (.if_icmp .ge 22, 3) := by decide +kernel
theorem dX7_intervals_24 : decode cX7_intervals 24 = .ok (.iinc 1 1, 3) := by decide +kernel
theorem dX7_intervals_27 : decode cX7_intervals 27 = .ok (.aload_n 0, 1) := by decide +kernel
theorem dX7_intervals_28 : decode cX7_intervals 28 = .ok (.aload_n 0, 1) := by decide +kernel
theorem dX7_intervals_29 : decode cX7_intervals 29 = .ok (.iload_n 2, 1) := by decide +kernel
theorem dX7_intervals_30 : decode cX7_intervals 30 = .ok (.invokestatic 35, 3) := by decide +kernel
theorem dX7_intervals_33 : decode cX7_intervals 33 = .ok (.invokestatic 29, 3) := by decide +kernel
theorem dX7_intervals_36 : decode cX7_intervals 36 = .ok (.istore_n 2, 1) := by decide +kernel
theorem dX7_intervals_37 : decode cX7_intervals 37 = .ok (.iinc 3 1, 3) := by decide +kernel
theorem dX7_intervals_40 : decode cX7_intervals 40 = .ok (.goto (-30), 3) := by decide +kernel
theorem dX7_intervals_43 : decode cX7_intervals 43 = .ok (.iload_n 1, 1) := by decide +kernel
theorem dX7_intervals_44 : decode cX7_intervals 44 = .ok (.ireturn, 1) := by decide +kernel
theorem dX7_intervalStart_0 : decode cX7_intervalStart 0 = .ok (.iload_n 1, 1) := by decide +kernel
theorem dX7_intervalStart_1 : decode cX7_intervalStart 1 = .ok (.ifCond .ge 9, 3) := by decide +kernel
theorem dX7_intervalStart_4 : decode cX7_intervalStart 4 = .ok (.sipush 1000, 3) := by decide +kernel
theorem dX7_intervalStart_7 : decode cX7_intervalStart 7 = .ok (.goto 8, 3) := by decide +kernel
theorem dX7_intervalStart_10 : decode cX7_intervalStart 10 = .ok (.aload_n 0, 1) := by decide +kernel
theorem dX7_intervalStart_11 : decode cX7_intervalStart 11 = .ok (.iconst 0, 1) := by decide +kernel
theorem dX7_intervalStart_12 : decode cX7_intervalStart 12 = .ok (.invokestatic 29, 3) := by decide +kernel
theorem dX7_intervalStart_15 : decode cX7_intervalStart 15 = .ok (.istore_n 2, 1) := by decide +kernel
theorem dX7_intervalStart_16 : decode cX7_intervalStart 16 = .ok (.iconst 0, 1) := by decide +kernel
theorem dX7_intervalStart_17 : decode cX7_intervalStart 17 = .ok (.istore_n 3, 1) := by decide +kernel
theorem dX7_intervalStart_18 : decode cX7_intervalStart 18 = .ok (.iload_n 3, 1) := by decide +kernel
theorem dX7_intervalStart_19 : decode cX7_intervalStart 19 = .ok (.iload_n 1, 1) := by decide +kernel
theorem dX7_intervalStart_20 : decode cX7_intervalStart 20 = .ok (.if_icmp .ge 26, 3) := by decide +kernel
theorem dX7_intervalStart_23 : decode cX7_intervalStart 23 = .ok (.iload_n 2, 1) := by decide +kernel
theorem dX7_intervalStart_24 : decode cX7_intervalStart 24 = .ok (.sipush 1000, 3) := by decide +kernel
theorem dX7_intervalStart_27 : decode cX7_intervalStart 27 = .ok (.if_icmp .ge 19, 3) := by decide +kernel
theorem dX7_intervalStart_30 : decode cX7_intervalStart 30 = .ok (.aload_n 0, 1) := by decide +kernel
theorem dX7_intervalStart_31 : decode cX7_intervalStart 31 = .ok (.aload_n 0, 1) := by decide +kernel
theorem dX7_intervalStart_32 : decode cX7_intervalStart 32 = .ok (.iload_n 2, 1) := by decide +kernel
theorem dX7_intervalStart_33 : decode cX7_intervalStart 33 = .ok (.invokestatic 35, 3) := by decide +kernel
theorem dX7_intervalStart_36 : decode cX7_intervalStart 36 = .ok (.invokestatic 29, 3) := by decide +kernel
theorem dX7_intervalStart_39 : decode cX7_intervalStart 39 = .ok (.istore_n 2, 1) := by decide +kernel
theorem dX7_intervalStart_40 : decode cX7_intervalStart 40 = .ok (.iinc 3 1, 3) := by decide +kernel
theorem dX7_intervalStart_43 : decode cX7_intervalStart 43 = .ok (.goto (-25), 3) := by decide +kernel
theorem dX7_intervalStart_46 : decode cX7_intervalStart 46 = .ok (.iload_n 2, 1) := by decide +kernel
theorem dX7_intervalStart_47 : decode cX7_intervalStart 47 = .ok (.ireturn, 1) := by decide +kernel
theorem dX8_init_0 : decode cX8_init 0 = .ok (.aload_n 0, 1) := by decide +kernel
theorem dX8_init_1 : decode cX8_init 1 = .ok (.invokespecial 3, 3) := by decide +kernel
theorem dX8_init_4 : decode cX8_init 4 = .ok (.aload_n 0, 1) := by decide +kernel
theorem dX8_init_5 : decode cX8_init 5 = .ok (.sipush 1000, 3) := by decide +kernel
theorem dX8_init_8 : decode cX8_init 8 = .ok (.newarray .int, 2) := by decide +kernel
theorem dX8_init_10 : decode cX8_init 10 = .ok (.putfield 9, 3) := by decide +kernel
theorem dX8_init_13 : decode cX8_init 13 = .ok (.aload_n 0, 1) := by decide +kernel
theorem dX8_init_14 : decode cX8_init 14 = .ok (.new 13, 3) := by decide +kernel
theorem dX8_init_17 : decode cX8_init 17 = .ok (.dup, 1) := by decide +kernel
theorem dX8_init_18 : decode cX8_init 18 = .ok (.invokespecial 15, 3) := by decide +kernel
theorem dX8_init_21 : decode cX8_init 21 = .ok (.putfield 16, 3) := by decide +kernel
theorem dX8_init_24 : decode cX8_init 24 = .ok (.aload_n 0, 1) := by decide +kernel
theorem dX8_init_25 : decode cX8_init 25 = .ok (.bipush 12, 2) := by decide +kernel
theorem dX8_init_27 : decode cX8_init 27 = .ok (.anewarray 13, 3) := by decide +kernel
theorem dX8_init_30 : decode cX8_init 30 = .ok (.putfield 20, 3) := by decide +kernel
theorem dX8_init_33 : decode cX8_init 33 = .ok (.aload_n 0, 1) := by decide +kernel
theorem dX8_init_34 : decode cX8_init 34 = .ok (.iconst 0, 1) := by decide +kernel
theorem dX8_init_35 : decode cX8_init 35 = .ok (.putfield 24, 3) := by decide +kernel
theorem dX8_init_38 : decode cX8_init 38 = .ok (.aload_n 0, 1) := by decide +kernel
theorem dX8_init_39 : decode cX8_init 39 = .ok (.sipush 500, 3) := by decide +kernel
theorem dX8_init_42 : decode cX8_init 42 = .ok (.newarray .int, 2) := by decide +kernel
theorem dX8_init_44 : decode cX8_init 44 = .ok (.putfield 28, 3) := by decide +kernel
theorem dX8_init_47 : decode cX8_init 47 = .ok (.aload_n 0, 1) := by decide +kernel
theorem dX8_init_48 : decode cX8_init 48 = .ok (.iconst 0, 1) := by decide +kernel
theorem dX8_init_49 : decode cX8_init 49 = .ok (.putfield 31, 3) := by decide +kernel
theorem dX8_init_52 : decode cX8_init 52 = .ok (.aload_n 0, 1) := by decide +kernel
theorem dX8_init_53 : decode cX8_init 53 = .ok (.iconst (-1), 1) := by decide +kernel
theorem dX8_init_54 : decode cX8_init 54 = .ok (.putfield 34, 3) := by decide +kernel
theorem dX8_init_57 : decode cX8_init 57 = .ok (.aload_n 0, 1) := by decide +kernel
theorem dX8_init_58 : decode cX8_init 58 = .ok (.iconst 3, 1) := by decide +kernel
theorem dX8_init_59 : decode cX8_init 59 = .ok (.newarray .int, 2) := by decide +kernel
theorem dX8_init_61 : decode cX8_init 61 = .ok (.putfield 37, 3) := by decide +kernel
theorem dX8_init_64 : decode cX8_init 64 = .ok (.aload_n 0, 1) := by decide +kernel
theorem dX8_init_65 : decode cX8_init 65 = .ok (.new 40, 3) := by decide +kernel
theorem dX8_init_68 : decode cX8_init 68 = .ok (.dup, 1) := by decide +kernel
theorem dX8_init_69 : decode cX8_init 69 = .ok (.aload_n 0, 1) := by decide +kernel
theorem dX8_init_70 : decode cX8_init 70 = .ok (.getfield 28, 3) := by decide +kernel
theorem dX8_init_73 : decode cX8_init 73 = .ok (.invokespecial 42, 3) := by decide +kernel
theorem dX8_init_76 : decode cX8_init 76 = .ok (.putfield 45, 3) := by decide +kernel
theorem dX8_init_79 : decode cX8_init 79 = .ok (.aload_n 0, 1) := by decide +kernel
theorem dX8_init_80 : decode cX8_init 80 = .ok (.new 49, 3) := by decide +kernel
theorem dX8_init_83 : decode cX8_init 83 = .ok (.dup, 1) := by decide +kernel
theorem dX8_init_84 : decode cX8_init 84 = .ok (.aload_n 0, 1) := by decide +kernel
theorem dX8_init_85 : decode cX8_init 85 = .ok (.getfield 16, 3) := by decide +kernel
theorem dX8_init_88 : decode cX8_init 88 = .ok (.aload_n 0, 1) := by decide +kernel
theorem dX8_init_89 : decode cX8_init 89 = .ok (.getfield 9, 3) := by decide +kernel
theorem dX8_init_92 : decode cX8_init 92 = .ok (.invokespecial 51, 3) := by decide +kernel
theorem dX8_init_95 : decode cX8_init 95 = .ok (.putfield 54, 3) := by decide +kernel
theorem dX8_init_98 : decode cX8_init 98 = .ok (.aload_n 0, 1) := by decide +kernel
theorem dX8_init_99 : decode cX8_init 99 = .ok (.new 49, 3) := by decide +kernel
theorem dX8_init_102 : decode cX8_init 102 = .ok (.dup, 1) := by decide +kernel
theorem dX8_init_103 : decode cX8_init 103 = .ok (.aload_n 0, 1) := by decide +kernel
theorem dX8_init_104 : decode cX8_init 104 = .ok (.getfield 16, 3) := by decide +kernel
theorem dX8_init_107 : decode cX8_init 107 = .ok (.aload_n 0, 1) := by decide +kernel
theorem dX8_init_108 : decode cX8_init 108 = .ok (.getfield 9, 3) := by decide +kernel
theorem dX8_init_111 : decode cX8_init 111 = .ok (.invokespecial 51, 3) := by decide +kernel
theorem dX8_init_114 : decode cX8_init 114 = .ok (.putfield 58, 3) := by decide +kernel
theorem dX8_init_117 : decode cX8_init 117 = .ok (.aload_n 0, 1) := by decide +kernel
theorem dX8_init_118 : decode cX8_init 118 = .ok (.new 61, 3) := by decide +kernel
theorem dX8_init_121 : decode cX8_init 121 = .ok (.dup, 1) := by decide +kernel
theorem dX8_init_122 : decode cX8_init 122 = .ok (.aload_n 0, 1) := by decide +kernel
theorem dX8_init_123 : decode cX8_init 123 = .ok (.getfield 16, 3) := by decide +kernel
theorem dX8_init_126 : decode cX8_init 126 = .ok (.aload_n 0, 1) := by decide +kernel
theorem dX8_init_127 : decode cX8_init 127 = .ok (.getfield 54, 3) := by decide +kernel
theorem dX8_init_130 : decode cX8_init 130 = .ok (.invokespecial 63, 3) := by decide +kernel
theorem dX8_init_133 : decode cX8_init 133 = .ok (.putfield 66, 3) := by decide +kernel
theorem dX8_init_136 : decode cX8_init 136 = .ok (.iconst 0, 1) := by decide +kernel
theorem dX8_init_137 : decode cX8_init 137 = .ok (.istore_n 1, 1) := by decide +kernel
theorem dX8_init_138 : decode cX8_init 138 = .ok (.iload_n 1, 1) := by decide +kernel
theorem dX8_init_139 : decode cX8_init 139 = .ok (.bipush 12, 2) := by decide +kernel
theorem dX8_init_141 : decode cX8_init 141 = .ok (.if_icmp .ge 22, 3) := by decide +kernel
theorem dX8_init_144 : decode cX8_init 144 = .ok (.aload_n 0, 1) := by decide +kernel
theorem dX8_init_145 : decode cX8_init 145 = .ok (.getfield 20, 3) := by decide +kernel
theorem dX8_init_148 : decode cX8_init 148 = .ok (.iload_n 1, 1) := by decide +kernel
theorem dX8_init_149 : decode cX8_init 149 = .ok (.new 13, 3) := by decide +kernel
theorem dX8_init_152 : decode cX8_init 152 = .ok (.dup, 1) := by decide +kernel
theorem dX8_init_153 : decode cX8_init 153 = .ok (.invokespecial 15, 3) := by decide +kernel
theorem dX8_init_156 : decode cX8_init 156 = .ok (.aastore, 1) := by decide +kernel
theorem dX8_init_157 : decode cX8_init 157 = .ok (.iinc 1 1, 3) := by decide +kernel
theorem dX8_init_160 : decode cX8_init 160 = .ok (.goto (-22), 3) := by decide +kernel
theorem dX8_init_163 : decode cX8_init 163 = .ok (.aload_n 0, 1) := by decide +kernel
theorem dX8_init_164 : decode cX8_init 164 = .ok (.getfield 16, 3) := by decide +kernel
theorem dX8_init_167 : decode cX8_init 167 = .ok (.iconst 2, 1) := by decide +kernel
theorem dX8_init_168 : decode cX8_init 168 = .ok (.putfield 70, 3) := by decide +kernel
theorem dX8_init_171 : decode cX8_init 171 = .ok (.aload_n 0, 1) := by decide +kernel
theorem dX8_init_172 : decode cX8_init 172 = .ok (.getfield 16, 3) := by decide +kernel
theorem dX8_init_175 : decode cX8_init 175 = .ok (.getfield 73, 3) := by decide +kernel
theorem dX8_init_178 : decode cX8_init 178 = .ok (.iconst 0, 1) := by decide +kernel
theorem dX8_init_179 : decode cX8_init 179 = .ok (.iconst 0, 1) := by decide +kernel
theorem dX8_init_180 : decode cX8_init 180 = .ok (.iastore, 1) := by decide +kernel
theorem dX8_init_181 : decode cX8_init 181 = .ok (.aload_n 0, 1) := by decide +kernel
theorem dX8_init_182 : decode cX8_init 182 = .ok (.getfield 16, 3) := by decide +kernel
theorem dX8_init_185 : decode cX8_init 185 = .ok (.getfield 76, 3) := by decide +kernel
theorem dX8_init_188 : decode cX8_init 188 = .ok (.iconst 0, 1) := by decide +kernel
theorem dX8_init_189 : decode cX8_init 189 = .ok (.sipush 1000, 3) := by decide +kernel
theorem dX8_init_192 : decode cX8_init 192 = .ok (.iastore, 1) := by decide +kernel
theorem dX8_init_193 : decode cX8_init 193 = .ok (.aload_n 0, 1) := by decide +kernel
theorem dX8_init_194 : decode cX8_init 194 = .ok (.getfield 16, 3) := by decide +kernel
theorem dX8_init_197 : decode cX8_init 197 = .ok (.getfield 73, 3) := by decide +kernel
theorem dX8_init_200 : decode cX8_init 200 = .ok (.iconst 1, 1) := by decide +kernel
theorem dX8_init_201 : decode cX8_init 201 = .ok (.sipush 999, 3) := by decide +kernel
theorem dX8_init_204 : decode cX8_init 204 = .ok (.iastore, 1) := by decide +kernel
theorem dX8_init_205 : decode cX8_init 205 = .ok (.aload_n 0, 1) := by decide +kernel
theorem dX8_init_206 : decode cX8_init 206 = .ok (.getfield 16, 3) := by decide +kernel
theorem dX8_init_209 : decode cX8_init 209 = .ok (.getfield 76, 3) := by decide +kernel
theorem dX8_init_212 : decode cX8_init 212 = .ok (.iconst 1, 1) := by decide +kernel
theorem dX8_init_213 : decode cX8_init 213 = .ok (.iconst 1, 1) := by decide +kernel
theorem dX8_init_214 : decode cX8_init 214 = .ok (.iastore, 1) := by decide +kernel
theorem dX8_init_215 : decode cX8_init 215 = .ok (.aload_n 0, 1) := by decide +kernel
theorem dX8_init_216 : decode cX8_init 216 = .ok (.getfield 16, 3) := by decide +kernel
theorem dX8_init_219 : decode cX8_init 219 = .ok (.aload_n 0, 1) := by decide +kernel
theorem dX8_init_220 : decode cX8_init 220 = .ok (.getfield 9, 3) := by decide +kernel
theorem dX8_init_223 : decode cX8_init 223 = .ok (.invokevirtual 79, 3) := by decide +kernel
theorem dX8_init_226 : decode cX8_init 226 = .ok (.aload_n 0, 1) := by decide +kernel
theorem dX8_init_227 : decode cX8_init 227 = .ok (.invokevirtual 82, 3) := by decide +kernel
theorem dX8_init_230 : decode cX8_init 230 = .ok (.return_, 1) := by decide +kernel
theorem dX8_feed_0 : decode cX8_feed 0 = .ok (.aload_n 0, 1) := by decide +kernel
theorem dX8_feed_1 : decode cX8_feed 1 = .ok (.getfield 31, 3) := by decide +kernel
theorem dX8_feed_4 : decode cX8_feed 4 = .ok (.bipush 20, 2) := by decide +kernel
theorem dX8_feed_6 : decode cX8_feed 6 = .ok (.iadd, 1) := by decide +kernel
theorem dX8_feed_7 : decode cX8_feed 7 = .ok (.sipush 500, 3) := by decide +kernel
theorem dX8_feed_10 : decode cX8_feed 10 = .ok (.if_icmp .le 5, 3) := by decide +kernel
theorem dX8_feed_13 : decode cX8_feed 13 = .ok (.iconst (-1), 1) := by decide +kernel
theorem dX8_feed_14 : decode cX8_feed 14 = .ok (.ireturn, 1) := by decide +kernel
theorem dX8_feed_15 : decode cX8_feed 15 = .ok (.aload_n 0, 1) := by decide +kernel
theorem dX8_feed_16 : decode cX8_feed 16 = .ok (.iload_n 1, 1) := by decide +kernel
theorem dX8_feed_17 : decode cX8_feed 17 = .ok (.invokevirtual 85, 3) := by decide +kernel
theorem dX8_feed_20 : decode cX8_feed 20 = .ok (.aload_n 0, 1) := by decide +kernel
theorem dX8_feed_21 : decode cX8_feed 21 = .ok (.iload_n 2, 1) := by decide +kernel
theorem dX8_feed_22 : decode cX8_feed 22 = .ok (.invokevirtual 85, 3) := by decide +kernel
theorem dX8_feed_25 : decode cX8_feed 25 = .ok (.aload_n 0, 1) := by decide +kernel
theorem dX8_feed_26 : decode cX8_feed 26 = .ok (.iload_n 3, 1) := by decide +kernel
theorem dX8_feed_27 : decode cX8_feed 27 = .ok (.invokevirtual 85, 3) := by decide +kernel
