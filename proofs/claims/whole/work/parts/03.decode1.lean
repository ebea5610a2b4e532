theorem dX8_feed_30 : decode cX8_feed 30 = .ok (.aload_n 0, 1) := by decide +kernel
theorem dX8_feed_31 : decode cX8_feed 31 = .ok (.iload 4, 2) := by decide +kernel
theorem dX8_feed_33 : decode cX8_feed 33 = .ok (.invokevirtual 85, 3) := by decide +kernel
theorem dX8_feed_36 : decode cX8_feed 36 = .ok (.aload_n 0, 1) := by decide +kernel
theorem dX8_feed_37 : decode cX8_feed 37 = .ok (.iload 5, 2) := by decide +kernel
theorem dX8_feed_39 : decode cX8_feed 39 = .ok (.invokevirtual 85, 3) := by decide +kernel
theorem dX8_feed_42 : decode cX8_feed 42 = .ok (.aload_n 0, 1) := by decide +kernel
theorem dX8_feed_43 : decode cX8_feed 43 = .ok (.getfield 31, 3) := by decide +kernel
theorem dX8_feed_46 : decode cX8_feed 46 = .ok (.ireturn, 1) := by decide +kernel
theorem dX8_text_0 : decode cX8_text 0 = .ok (.aload_n 0, 1) := by decide +kernel
theorem dX8_text_1 : decode cX8_text 1 = .ok (.iload_n 1, 1) := by decide +kernel
theorem dX8_text_2 : decode cX8_text 2 = .ok (.ifCond .lt 15, 3) := by decide +kernel
theorem dX8_text_5 : decode cX8_text 5 = .ok (.iload_n 1, 1) := by decide +kernel
theorem dX8_text_6 : decode cX8_text 6 = .ok (.aload_n 0, 1) := by decide +kernel
theorem dX8_text_7 : decode cX8_text 7 = .ok (.getfield 31, 3) := by decide +kernel
theorem dX8_text_10 : decode cX8_text 10 = .ok (.if_icmp .gt 7, 3) := by decide +kernel
theorem dX8_text_13 : decode cX8_text 13 = .ok (.iconst 1, 1) := by decide +kernel
theorem dX8_text_14 : decode cX8_text 14 = .ok (.goto 4, 3) := by decide +kernel
theorem dX8_text_17 : decode cX8_text 17 = .ok (.iconst 0, 1) := by decide +kernel
theorem dX8_text_18 : decode cX8_text 18 = .ok (.invokevirtual 89, 3) := by decide +kernel
theorem dX8_text_21 : decode cX8_text 21 = .ok (.aload_n 0, 1) := by decide +kernel
theorem dX8_text_22 : decode cX8_text 22 = .ok (.getfield 45, 3) := by decide +kernel
theorem dX8_text_25 : decode cX8_text 25 = .ok (.iload_n 1, 1) := by decide +kernel
theorem dX8_text_26 : decode cX8_text 26 = .ok (.invokevirtual 93, 3) := by decide +kernel
theorem dX8_text_29 : decode cX8_text 29 = .ok (.aload_n 0, 1) := by decide +kernel
theorem dX8_text_30 : decode cX8_text 30 = .ok (.iconst 0, 1) := by decide +kernel
theorem dX8_text_31 : decode cX8_text 31 = .ok (.putfield 31, 3) := by decide +kernel
theorem dX8_text_34 : decode cX8_text 34 = .ok (.aload_n 0, 1) := by decide +kernel
theorem dX8_text_35 : decode cX8_text 35 = .ok (.getfield 45, 3) := by decide +kernel
theorem dX8_text_38 : decode cX8_text 38 = .ok (.getfield 96, 3) := by decide +kernel
theorem dX8_text_41 : decode cX8_text 41 = .ok (.ifCond .eq 25, 3) := by decide +kernel
theorem dX8_text_44 : decode cX8_text 44 = .ok (.aload_n 0, 1) := by decide +kernel
theorem dX8_text_45 : decode cX8_text 45 = .ok (.aload_n 0, 1) := by decide +kernel
theorem dX8_text_46 : decode cX8_text 46 = .ok (.getfield 45, 3) := by decide +kernel
theorem dX8_text_49 : decode cX8_text 49 = .ok (.getfield 99, 3) := by decide +kernel
theorem dX8_text_52 : decode cX8_text 52 = .ok (.putfield 34, 3) := by decide +kernel
theorem dX8_text_55 : decode cX8_text 55 = .ok (.aload_n 0, 1) := by decide +kernel
theorem dX8_text_56 : decode cX8_text 56 = .ok (.getfield 45, 3) := by decide +kernel
theorem dX8_text_59 : decode cX8_text 59 = .ok (.getfield 96, 3) := by decide +kernel
theorem dX8_text_62 : decode cX8_text 62 = .ok (.bipush 10, 2) := by decide +kernel
theorem dX8_text_64 : decode cX8_text 64 = .ok (.isub, 1) := by decide +kernel
theorem dX8_text_65 : decode cX8_text 65 = .ok (.ireturn, 1) := by decide +kernel
theorem dX8_text_66 : decode cX8_text 66 = .ok (.aload_n 0, 1) := by decide +kernel
theorem dX8_text_67 : decode cX8_text 67 = .ok (.iconst (-1), 1) := by decide +kernel
theorem dX8_text_68 : decode cX8_text 68 = .ok (.putfield 34, 3) := by decide +kernel
theorem dX8_text_71 : decode cX8_text 71 = .ok (.aload_n 0, 1) := by decide +kernel
theorem dX8_text_72 : decode cX8_text 72 = .ok (.getfield 16, 3) := by decide +kernel
theorem dX8_text_75 : decode cX8_text 75 = .ok (.aload_n 0, 1) := by decide +kernel
theorem dX8_text_76 : decode cX8_text 76 = .ok (.getfield 45, 3) := by decide +kernel
theorem dX8_text_79 : decode cX8_text 79 = .ok (.getfield 102, 3) := by decide +kernel
theorem dX8_text_82 : decode cX8_text 82 = .ok (.invokevirtual 105, 3) := by decide +kernel
theorem dX8_text_85 : decode cX8_text 85 = .ok (.aload_n 0, 1) := by decide +kernel
theorem dX8_text_86 : decode cX8_text 86 = .ok (.getfield 16, 3) := by decide +kernel
theorem dX8_text_89 : decode cX8_text 89 = .ok (.aload_n 0, 1) := by decide +kernel
theorem dX8_text_90 : decode cX8_text 90 = .ok (.getfield 9, 3) := by decide +kernel
theorem dX8_text_93 : decode cX8_text 93 = .ok (.invokevirtual 79, 3) := by decide +kernel
theorem dX8_text_96 : decode cX8_text 96 = .ok (.aload_n 0, 1) := by decide +kernel
theorem dX8_text_97 : decode cX8_text 97 = .ok (.iconst 0, 1) := by decide +kernel
theorem dX8_text_98 : decode cX8_text 98 = .ok (.putfield 24, 3) := by decide +kernel
theorem dX8_text_101 : decode cX8_text 101 = .ok (.aload_n 0, 1) := by decide +kernel
theorem dX8_text_102 : decode cX8_text 102 = .ok (.invokevirtual 82, 3) := by decide +kernel
theorem dX8_text_105 : decode cX8_text 105 = .ok (.aload_n 0, 1) := by decide +kernel
theorem dX8_text_106 : decode cX8_text 106 = .ok (.getfield 16, 3) := by decide +kernel
theorem dX8_text_109 : decode cX8_text 109 = .ok (.getfield 109, 3) := by decide +kernel
theorem dX8_text_112 : decode cX8_text 112 = .ok (.ireturn, 1) := by decide +kernel
theorem dX8_fault_0 : decode cX8_fault 0 = .ok (.aload_n 0, 1) := by decide +kernel
theorem dX8_fault_1 : decode cX8_fault 1 = .ok (.getfield 34, 3) := by decide +kernel
theorem dX8_fault_4 : decode cX8_fault 4 = .ok (.ireturn, 1) := by decide +kernel
theorem dX8_set_0 : decode cX8_set 0 = .ok (.iload_n 1, 1) := by decide +kernel
theorem dX8_set_1 : decode cX8_set 1 = .ok (.ifCond .ne 17, 3) := by decide +kernel
theorem dX8_set_4 : decode cX8_set 4 = .ok (.iload_n 2, 1) := by decide +kernel
theorem dX8_set_5 : decode cX8_set 5 = .ok (.iconst 1, 1) := by decide +kernel
theorem dX8_set_6 : decode cX8_set 6 = .ok (.if_icmp .lt 12, 3) := by decide +kernel
theorem dX8_set_9 : decode cX8_set 9 = .ok (.iload_n 2, 1) := by decide +kernel
theorem dX8_set_10 : decode cX8_set 10 = .ok (.iconst 3, 1) := by decide +kernel
theorem dX8_set_11 : decode cX8_set 11 = .ok (.if_icmp .gt 7, 3) := by decide +kernel
theorem dX8_set_14 : decode cX8_set 14 = .ok (.iconst 1, 1) := by decide +kernel
theorem dX8_set_15 : decode cX8_set 15 = .ok (.goto 4, 3) := by decide +kernel
theorem dX8_set_18 : decode cX8_set 18 = .ok (.iconst 0, 1) := by decide +kernel
theorem dX8_set_19 : decode cX8_set 19 = .ok (.istore_n 3, 1) := by decide +kernel
theorem dX8_set_20 : decode cX8_set 20 = .ok (.iload_n 1, 1) := by decide +kernel
theorem dX8_set_21 : decode cX8_set 21 = .ok (.iconst 1, 1) := by decide +kernel
theorem dX8_set_22 : decode cX8_set 22 = .ok (.if_icmp .ne 21, 3) := by decide +kernel
theorem dX8_set_25 : decode cX8_set 25 = .ok (.iload_n 2, 1) := by decide +kernel
theorem dX8_set_26 : decode cX8_set 26 = .ok (.sipush (-500), 3) := by decide +kernel
theorem dX8_set_29 : decode cX8_set 29 = .ok (.if_icmp .lt 14, 3) := by decide +kernel
theorem dX8_set_32 : decode cX8_set 32 = .ok (.iload_n 2, 1) := by decide +kernel
theorem dX8_set_33 : decode cX8_set 33 = .ok (.sipush 500, 3) := by decide +kernel
theorem dX8_set_36 : decode cX8_set 36 = .ok (.if_icmp .gt 7, 3) := by decide +kernel
theorem dX8_set_39 : decode cX8_set 39 = .ok (.iconst 1, 1) := by decide +kernel
theorem dX8_set_40 : decode cX8_set 40 = .ok (.goto 4, 3) := by decide +kernel
theorem dX8_set_43 : decode cX8_set 43 = .ok (.iconst 0, 1) := by decide +kernel
theorem dX8_set_44 : decode cX8_set 44 = .ok (.istore 4, 2) := by decide +kernel
theorem dX8_set_46 : decode cX8_set 46 = .ok (.aload_n 0, 1) := by decide +kernel
theorem dX8_set_47 : decode cX8_set 47 = .ok (.iload_n 3, 1) := by decide +kernel
theorem dX8_set_48 : decode cX8_set 48 = .ok (.ifCond .ne 8, 3) := by decide +kernel
theorem dX8_set_51 : decode cX8_set 51 = .ok (.iload 4, 2) := by decide +kernel
theorem dX8_set_53 : decode cX8_set 53 = .ok (.ifCond .eq 7, 3) := by decide +kernel
theorem dX8_set_56 : decode cX8_set 56 = .ok (.iconst 1, 1) := by decide +kernel
theorem dX8_set_57 : decode cX8_set 57 = .ok (.goto 4, 3) := by decide +kernel
theorem dX8_set_60 : decode cX8_set 60 = .ok (.iconst 0, 1) := by decide +kernel
theorem dX8_set_61 : decode cX8_set 61 = .ok (.invokevirtual 89, 3) := by decide +kernel
theorem dX8_set_64 : decode cX8_set 64 = .ok (.aload_n 0, 1) := by decide +kernel
theorem dX8_set_65 : decode cX8_set 65 = .ok (.invokevirtual 112, 3) := by decide +kernel
theorem dX8_set_68 : decode cX8_set 68 = .ok (.iload_n 3, 1) := by decide +kernel
theorem dX8_set_69 : decode cX8_set 69 = .ok (.ifCond .eq 13, 3) := by decide +kernel
theorem dX8_set_72 : decode cX8_set 72 = .ok (.aload_n 0, 1) := by decide +kernel
theorem dX8_set_73 : decode cX8_set 73 = .ok (.getfield 16, 3) := by decide +kernel
theorem dX8_set_76 : decode cX8_set 76 = .ok (.getfield 115, 3) := by decide +kernel
theorem dX8_set_79 : decode cX8_set 79 = .ok (.goto 10, 3) := by decide +kernel
theorem dX8_set_82 : decode cX8_set 82 = .ok (.aload_n 0, 1) := by decide +kernel
theorem dX8_set_83 : decode cX8_set 83 = .ok (.getfield 16, 3) := by decide +kernel
theorem dX8_set_86 : decode cX8_set 86 = .ok (.getfield 118, 3) := by decide +kernel
theorem dX8_set_89 : decode cX8_set 89 = .ok (.istore 5, 2) := by decide +kernel
theorem dX8_set_91 : decode cX8_set 91 = .ok (.iload_n 3, 1) := by decide +kernel
theorem dX8_set_92 : decode cX8_set 92 = .ok (.ifCond .eq 14, 3) := by decide +kernel
theorem dX8_set_95 : decode cX8_set 95 = .ok (.aload_n 0, 1) := by decide +kernel
theorem dX8_set_96 : decode cX8_set 96 = .ok (.getfield 16, 3) := by decide +kernel
theorem dX8_set_99 : decode cX8_set 99 = .ok (.iload_n 2, 1) := by decide +kernel
theorem dX8_set_100 : decode cX8_set 100 = .ok (.putfield 115, 3) := by decide +kernel
theorem dX8_set_103 : decode cX8_set 103 = .ok (.goto 11, 3) := by decide +kernel
theorem dX8_set_106 : decode cX8_set 106 = .ok (.aload_n 0, 1) := by decide +kernel
theorem dX8_set_107 : decode cX8_set 107 = .ok (.getfield 16, 3) := by decide +kernel
theorem dX8_set_110 : decode cX8_set 110 = .ok (.iload_n 2, 1) := by decide +kernel
theorem dX8_set_111 : decode cX8_set 111 = .ok (.putfield 118, 3) := by decide +kernel
theorem dX8_set_114 : decode cX8_set 114 = .ok (.aload_n 0, 1) := by decide +kernel
theorem dX8_set_115 : decode cX8_set 115 = .ok (.invokevirtual 82, 3) := by decide +kernel
theorem dX8_set_118 : decode cX8_set 118 = .ok (.iload 5, 2) := by decide +kernel
theorem dX8_set_120 : decode cX8_set 120 = .ok (.ireturn, 1) := by decide +kernel
theorem dX8_redate_0 : decode cX8_redate 0 = .ok (.aload_n 0, 1) := by decide +kernel
theorem dX8_redate_1 : decode cX8_redate 1 = .ok (.iload_n 1, 1) := by decide +kernel
theorem dX8_redate_2 : decode cX8_redate 2 = .ok (.invokevirtual 121, 3) := by decide +kernel
theorem dX8_redate_5 : decode cX8_redate 5 = .ok (.aload_n 0, 1) := by decide +kernel
theorem dX8_redate_6 : decode cX8_redate 6 = .ok (.iload_n 2, 1) := by decide +kernel
theorem dX8_redate_7 : decode cX8_redate 7 = .ok (.ifCond .lt 25, 3) := by decide +kernel
theorem dX8_redate_10 : decode cX8_redate 10 = .ok (.iload_n 2, 1) := by decide +kernel
theorem dX8_redate_11 : decode cX8_redate 11 = .ok (.sipush 9999, 3) := by decide +kernel
theorem dX8_redate_14 : decode cX8_redate 14 = .ok (.if_icmp .gt 18, 3) := by decide +kernel
theorem dX8_redate_17 : decode cX8_redate 17 = .ok (.iload_n 3, 1) := by decide +kernel
theorem dX8_redate_18 : decode cX8_redate 18 = .ok (.ifCond .lt 14, 3) := by decide +kernel
theorem dX8_redate_21 : decode cX8_redate 21 = .ok (.iload_n 3, 1) := by decide +kernel
theorem dX8_redate_22 : decode cX8_redate 22 = .ok (.sipush 999, 3) := by decide +kernel
theorem dX8_redate_25 : decode cX8_redate 25 = .ok (.if_icmp .gt 7, 3) := by decide +kernel
theorem dX8_redate_28 : decode cX8_redate 28 = .ok (.iconst 1, 1) := by decide +kernel
theorem dX8_redate_29 : decode cX8_redate 29 = .ok (.goto 4, 3) := by decide +kernel
theorem dX8_redate_32 : decode cX8_redate 32 = .ok (.iconst 0, 1) := by decide +kernel
theorem dX8_redate_33 : decode cX8_redate 33 = .ok (.invokevirtual 89, 3) := by decide +kernel
theorem dX8_redate_36 : decode cX8_redate 36 = .ok (.aload_n 0, 1) := by decide +kernel
theorem dX8_redate_37 : decode cX8_redate 37 = .ok (.invokevirtual 112, 3) := by decide +kernel
theorem dX8_redate_40 : decode cX8_redate 40 = .ok (.aload_n 0, 1) := by decide +kernel
theorem dX8_redate_41 : decode cX8_redate 41 = .ok (.getfield 16, 3) := by decide +kernel
theorem dX8_redate_44 : decode cX8_redate 44 = .ok (.getfield 124, 3) := by decide +kernel
theorem dX8_redate_47 : decode cX8_redate 47 = .ok (.iload_n 1, 1) := by decide +kernel
theorem dX8_redate_48 : decode cX8_redate 48 = .ok (.aaload, 1) := by decide +kernel
theorem dX8_redate_49 : decode cX8_redate 49 = .ok (.astore 4, 2) := by decide +kernel
theorem dX8_redate_51 : decode cX8_redate 51 = .ok (.aload 4, 2) := by decide +kernel
theorem dX8_redate_53 : decode cX8_redate 53 = .ok (.getfield 128, 3) := by decide +kernel
theorem dX8_redate_56 : decode cX8_redate 56 = .ok (.ifCond .eq 7, 3) := by decide +kernel
theorem dX8_redate_59 : decode cX8_redate 59 = .ok (.iconst 1, 1) := by decide +kernel
theorem dX8_redate_60 : decode cX8_redate 60 = .ok (.goto 4, 3) := by decide +kernel
theorem dX8_redate_63 : decode cX8_redate 63 = .ok (.iconst 0, 1) := by decide +kernel
theorem dX8_redate_64 : decode cX8_redate 64 = .ok (.istore 5, 2) := by decide +kernel
theorem dX8_redate_66 : decode cX8_redate 66 = .ok (.aload 4, 2) := by decide +kernel
theorem dX8_redate_68 : decode cX8_redate 68 = .ok (.iconst 0, 1) := by decide +kernel
theorem dX8_redate_69 : decode cX8_redate 69 = .ok (.putfield 128, 3) := by decide +kernel
theorem dX8_redate_72 : decode cX8_redate 72 = .ok (.aload 4, 2) := by decide +kernel
theorem dX8_redate_74 : decode cX8_redate 74 = .ok (.iload_n 2, 1) := by decide +kernel
theorem dX8_redate_75 : decode cX8_redate 75 = .ok (.putfield 134, 3) := by decide +kernel
theorem dX8_redate_78 : decode cX8_redate 78 = .ok (.aload 4, 2) := by decide +kernel
theorem dX8_redate_80 : decode cX8_redate 80 = .ok (.iload_n 3, 1) := by decide +kernel
theorem dX8_redate_81 : decode cX8_redate 81 = .ok (.putfield 137, 3) := by decide +kernel
theorem dX8_redate_84 : decode cX8_redate 84 = .ok (.aload_n 0, 1) := by decide +kernel
theorem dX8_redate_85 : decode cX8_redate 85 = .ok (.invokevirtual 82, 3) := by decide +kernel
theorem dX8_redate_88 : decode cX8_redate 88 = .ok (.iload 5, 2) := by decide +kernel
theorem dX8_redate_90 : decode cX8_redate 90 = .ok (.ireturn, 1) := by decide +kernel
theorem dX8_before_0 : decode cX8_before 0 = .ok (.aload_n 0, 1) := by decide +kernel
theorem dX8_before_1 : decode cX8_before 1 = .ok (.iload_n 1, 1) := by decide +kernel
theorem dX8_before_2 : decode cX8_before 2 = .ok (.invokevirtual 121, 3) := by decide +kernel
theorem dX8_before_5 : decode cX8_before 5 = .ok (.aload_n 0, 1) := by decide +kernel
theorem dX8_before_6 : decode cX8_before 6 = .ok (.iload_n 2, 1) := by decide +kernel
theorem dX8_before_7 : decode cX8_before 7 = .ok (.invokevirtual 121, 3) := by decide +kernel
theorem dX8_before_10 : decode cX8_before 10 = .ok (.aload_n 0, 1) := by decide +kernel
theorem dX8_before_11 : decode cX8_before 11 = .ok (.iload_n 1, 1) := by decide +kernel
theorem dX8_before_12 : decode cX8_before 12 = .ok (.iload_n 2, 1) := by decide +kernel
theorem dX8_before_13 : decode cX8_before 13 = .ok (.if_icmp .eq 25, 3) := by decide +kernel
theorem dX8_before_16 : decode cX8_before 16 = .ok (.iload_n 3, 1) := by decide +kernel
theorem dX8_before_17 : decode cX8_before 17 = .ok (.ifCond .lt 21, 3) := by decide +kernel
theorem dX8_before_20 : decode cX8_before 20 = .ok (.iload_n 3, 1) := by decide +kernel
theorem dX8_before_21 : decode cX8_before 21 = .ok (.iload 4, 2) := by decide +kernel
theorem dX8_before_23 : decode cX8_before 23 = .ok (.if_icmp .gt 15, 3) := by decide +kernel
theorem dX8_before_26 : decode cX8_before 26 = .ok (.iload 4, 2) := by decide +kernel
theorem dX8_before_28 : decode cX8_before 28 = .ok (.sipush 999, 3) := by decide +kernel
theorem dX8_before_31 : decode cX8_before 31 = .ok (.if_icmp .gt 7, 3) := by decide +kernel
theorem dX8_before_34 : decode cX8_before 34 = .ok (.iconst 1, 1) := by decide +kernel
theorem dX8_before_35 : decode cX8_before 35 = .ok (.goto 4, 3) := by decide +kernel
theorem dX8_before_38 : decode cX8_before 38 = .ok (.iconst 0, 1) := by decide +kernel
theorem dX8_before_39 : decode cX8_before 39 = .ok (.invokevirtual 89, 3) := by decide +kernel
theorem dX8_before_42 : decode cX8_before 42 = .ok (.aload_n 0, 1) := by decide +kernel
theorem dX8_before_43 : decode cX8_before 43 = .ok (.invokevirtual 140, 3) := by decide +kernel
theorem dX8_before_46 : decode cX8_before 46 = .ok (.aload_n 0, 1) := by decide +kernel
theorem dX8_before_47 : decode cX8_before 47 = .ok (.invokevirtual 112, 3) := by decide +kernel
theorem dX8_before_50 : decode cX8_before 50 = .ok (.aload_n 0, 1) := by decide +kernel
theorem dX8_before_51 : decode cX8_before 51 = .ok (.getfield 16, 3) := by decide +kernel
theorem dX8_before_54 : decode cX8_before 54 = .ok (.iconst 0, 1) := by decide +kernel
theorem dX8_before_55 : decode cX8_before 55 = .ok (.iload_n 1, 1) := by decide +kernel
theorem dX8_before_56 : decode cX8_before 56 = .ok (.iload_n 2, 1) := by decide +kernel
theorem dX8_before_57 : decode cX8_before 57 = .ok (.iload_n 3, 1) := by decide +kernel
theorem dX8_before_58 : decode cX8_before 58 = .ok (.iload 4, 2) := by decide +kernel
theorem dX8_before_60 : decode cX8_before 60 = .ok (.invokevirtual 143, 3) := by decide +kernel
theorem dX8_before_63 : decode cX8_before 63 = .ok (.aload_n 0, 1) := by decide +kernel
theorem dX8_before_64 : decode cX8_before 64 = .ok (.invokevirtual 82, 3) := by decide +kernel
theorem dX8_before_67 : decode cX8_before 67 = .ok (.aload_n 0, 1) := by decide +kernel
theorem dX8_before_68 : decode cX8_before 68 = .ok (.getfield 16, 3) := by decide +kernel
theorem dX8_before_71 : decode cX8_before 71 = .ok (.getfield 147, 3) := by decide +kernel
theorem dX8_before_74 : decode cX8_before 74 = .ok (.iconst 1, 1) := by decide +kernel
theorem dX8_before_75 : decode cX8_before 75 = .ok (.isub, 1) := by decide +kernel
theorem dX8_before_76 : decode cX8_before 76 = .ok (.ireturn, 1) := by decide +kernel
theorem dX8_bounds_0 : decode cX8_bounds 0 = .ok (.aload_n 0, 1) := by decide +kernel
theorem dX8_bounds_1 : decode cX8_bounds 1 = .ok (.iload_n 1, 1) := by decide +kernel
theorem dX8_bounds_2 : decode cX8_bounds 2 = .ok (.invokevirtual 121, 3) := by decide +kernel
theorem dX8_bounds_5 : decode cX8_bounds 5 = .ok (.aload_n 0, 1) := by decide +kernel
theorem dX8_bounds_6 : decode cX8_bounds 6 = .ok (.iload_n 2, 1) := by decide +kernel
theorem dX8_bounds_7 : decode cX8_bounds 7 = .ok (.iconst 2, 1) := by decide +kernel
theorem dX8_bounds_8 : decode cX8_bounds 8 = .ok (.if_icmp .eq 8, 3) := by decide +kernel
theorem dX8_bounds_11 : decode cX8_bounds 11 = .ok (.iload_n 2, 1) := by decide +kernel
theorem dX8_bounds_12 : decode cX8_bounds 12 = .ok (.iconst 3, 1) := by decide +kernel
theorem dX8_bounds_13 : decode cX8_bounds 13 = .ok (.if_icmp .ne 14, 3) := by decide +kernel
theorem dX8_bounds_16 : decode cX8_bounds 16 = .ok (.iload_n 3, 1) := by decide +kernel
theorem dX8_bounds_17 : decode cX8_bounds 17 = .ok (.invokestatic 150, 3) := by decide +kernel
theorem dX8_bounds_20 : decode cX8_bounds 20 = .ok (.ifCond .eq 7, 3) := by decide +kernel
theorem dX8_bounds_23 : decode cX8_bounds 23 = .ok (.iconst 1, 1) := by decide +kernel
theorem dX8_bounds_24 : decode cX8_bounds 24 = .ok (.goto 4, 3) := by decide +kernel
theorem dX8_bounds_27 : decode cX8_bounds 27 = .ok (.iconst 0, 1) := by decide +kernel
theorem dX8_bounds_28 : decode cX8_bounds 28 = .ok (.invokevirtual 89, 3) := by decide +kernel
theorem dX8_bounds_31 : decode cX8_bounds 31 = .ok (.aload_n 0, 1) := by decide +kernel
theorem dX8_bounds_32 : decode cX8_bounds 32 = .ok (.invokevirtual 140, 3) := by decide +kernel
theorem dX8_bounds_35 : decode cX8_bounds 35 = .ok (.aload_n 0, 1) := by decide +kernel
theorem dX8_bounds_36 : decode cX8_bounds 36 = .ok (.invokevirtual 112, 3) := by decide +kernel
theorem dX8_bounds_39 : decode cX8_bounds 39 = .ok (.aload_n 0, 1) := by decide +kernel
theorem dX8_bounds_40 : decode cX8_bounds 40 = .ok (.getfield 16, 3) := by decide +kernel
theorem dX8_bounds_43 : decode cX8_bounds 43 = .ok (.iload_n 2, 1) := by decide +kernel
theorem dX8_bounds_44 : decode cX8_bounds 44 = .ok (.iload_n 1, 1) := by decide +kernel
theorem dX8_bounds_45 : decode cX8_bounds 45 = .ok (.iconst (-1), 1) := by decide +kernel
theorem dX8_bounds_46 : decode cX8_bounds 46 = .ok (.iload_n 3, 1) := by decide +kernel
theorem dX8_bounds_47 : decode cX8_bounds 47 = .ok (.iconst (-1), 1) := by decide +kernel
theorem dX8_bounds_48 : decode cX8_bounds 48 = .ok (.invokevirtual 143, 3) := by decide +kernel
theorem dX8_bounds_51 : decode cX8_bounds 51 = .ok (.aload_n 0, 1) := by decide +kernel
theorem dX8_bounds_52 : decode cX8_bounds 52 = .ok (.invokevirtual 82, 3) := by decide +kernel
theorem dX8_bounds_55 : decode cX8_bounds 55 = .ok (.aload_n 0, 1) := by decide +kernel
theorem dX8_bounds_56 : decode cX8_bounds 56 = .ok (.getfield 16, 3) := by decide +kernel
theorem dX8_bounds_59 : decode cX8_bounds 59 = .ok (.getfield 147, 3) := by decide +kernel
theorem dX8_bounds_62 : decode cX8_bounds 62 = .ok (.iconst 1, 1) := by decide +kernel
theorem dX8_bounds_63 : decode cX8_bounds 63 = .ok (.isub, 1) := by decide +kernel
theorem dX8_bounds_64 : decode cX8_bounds 64 = .ok (.ireturn, 1) := by decide +kernel
theorem dX8_drop_0 : decode cX8_drop 0 = .ok (.aload_n 0, 1) := by decide +kernel
theorem dX8_drop_1 : decode cX8_drop 1 = .ok (.iload_n 1, 1) := by decide +kernel
theorem dX8_drop_2 : decode cX8_drop 2 = .ok (.invokevirtual 154, 3) := by decide +kernel
theorem dX8_drop_5 : decode cX8_drop 5 = .ok (.aload_n 0, 1) := by decide +kernel
theorem dX8_drop_6 : decode cX8_drop 6 = .ok (.getfield 54, 3) := by decide +kernel
theorem dX8_drop_9 : decode cX8_drop 9 = .ok (.getfield 157, 3) := by decide +kernel
theorem dX8_drop_12 : decode cX8_drop 12 = .ok (.iload_n 1, 1) := by decide +kernel
theorem dX8_drop_13 : decode cX8_drop 13 = .ok (.iaload, 1) := by decide +kernel
theorem dX8_drop_14 : decode cX8_drop 14 = .ok (.istore_n 2, 1) := by decide +kernel
theorem dX8_drop_15 : decode cX8_drop 15 = .ok (.aload_n 0, 1) := by decide +kernel
theorem dX8_drop_16 : decode cX8_drop 16 = .ok (.invokevirtual 112, 3) := by decide +kernel
theorem dX8_drop_19 : decode cX8_drop 19 = .ok (.aload_n 0, 1) := by decide +kernel
theorem dX8_drop_20 : decode cX8_drop 20 = .ok (.getfield 16, 3) := by decide +kernel
theorem dX8_drop_23 : decode cX8_drop 23 = .ok (.iload_n 1, 1) := by decide +kernel
theorem dX8_drop_24 : decode cX8_drop 24 = .ok (.invokevirtual 160, 3) := by decide +kernel
theorem dX8_drop_27 : decode cX8_drop 27 = .ok (.aload_n 0, 1) := by decide +kernel
theorem dX8_drop_28 : decode cX8_drop 28 = .ok (.invokevirtual 82, 3) := by decide +kernel
theorem dX8_drop_31 : decode cX8_drop 31 = .ok (.iload_n 2, 1) := by decide +kernel
theorem dX8_drop_32 : decode cX8_drop 32 = .ok (.ireturn, 1) := by decide +kernel
theorem dX8_undo_0 : decode cX8_undo 0 = .ok (.aload_n 0, 1) := by decide +kernel
theorem dX8_undo_1 : decode cX8_undo 1 = .ok (.getfield 24, 3) := by decide +kernel
theorem dX8_undo_4 : decode cX8_undo 4 = .ok (.ifCond .ne 5, 3) := by decide +kernel
theorem dX8_undo_7 : decode cX8_undo 7 = .ok (.iconst (-1), 1) := by decide +kernel
theorem dX8_undo_8 : decode cX8_undo 8 = .ok (.ireturn, 1) := by decide +kernel
theorem dX8_undo_9 : decode cX8_undo 9 = .ok (.aload_n 0, 1) := by decide +kernel
theorem dX8_undo_10 : decode cX8_undo 10 = .ok (.dup, 1) := by decide +kernel
theorem dX8_undo_11 : decode cX8_undo 11 = .ok (.getfield 24, 3) := by decide +kernel
theorem dX8_undo_14 : decode cX8_undo 14 = .ok (.iconst 1, 1) := by decide +kernel
theorem dX8_undo_15 : decode cX8_undo 15 = .ok (.isub, 1) := by decide +kernel
theorem dX8_undo_16 : decode cX8_undo 16 = .ok (.putfield 24, 3) := by decide +kernel
theorem dX8_undo_19 : decode cX8_undo 19 = .ok (.aload_n 0, 1) := by decide +kernel
theorem dX8_undo_20 : decode cX8_undo 20 = .ok (.getfield 16, 3) := by decide +kernel
theorem dX8_undo_23 : decode cX8_undo 23 = .ok (.aload_n 0, 1) := by decide +kernel
theorem dX8_undo_24 : decode cX8_undo 24 = .ok (.getfield 20, 3) := by decide +kernel
theorem dX8_undo_27 : decode cX8_undo 27 = .ok (.aload_n 0, 1) := by decide +kernel
theorem dX8_undo_28 : decode cX8_undo 28 = .ok (.getfield 24, 3) := by decide +kernel
theorem dX8_undo_31 : decode cX8_undo 31 = .ok (.aaload, 1) := by decide +kernel
theorem dX8_undo_32 : decode cX8_undo 32 = .ok (.invokevirtual 105, 3) := by decide +kernel
theorem dX8_undo_35 : decode cX8_undo 35 = .ok (.aload_n 0, 1) := by decide +kernel
theorem dX8_undo_36 : decode cX8_undo 36 = .ok (.invokevirtual 82, 3) := by decide +kernel
theorem dX8_undo_39 : decode cX8_undo 39 = .ok (.aload_n 0, 1) := by decide +kernel
theorem dX8_undo_40 : decode cX8_undo 40 = .ok (.getfield 24, 3) := by decide +kernel
theorem dX8_undo_43 : decode cX8_undo 43 = .ok (.ireturn, 1) := by decide +kernel
theorem dX8_told_0 : decode cX8_told 0 = .ok (.aload_n 0, 1) := by decide +kernel
theorem dX8_told_1 : decode cX8_told 1 = .ok (.iload_n 1, 1) := by decide +kernel
theorem dX8_told_2 : decode cX8_told 2 = .ok (.ifCond .lt 13, 3) := by decide +kernel
theorem dX8_told_5 : decode cX8_told 5 = .ok (.iload_n 1, 1) := by decide +kernel
theorem dX8_told_6 : decode cX8_told 6 = .ok (.bipush 11, 2) := by decide +kernel
theorem dX8_told_8 : decode cX8_told 8 = .ok (.if_icmp .gt 7, 3) := by decide +kernel
theorem dX8_told_11 : decode cX8_told 11 = .ok (.iconst 1, 1) := by decide +kernel
theorem dX8_told_12 : decode cX8_told 12 = .ok (.goto 4, 3) := by decide +kernel
theorem dX8_told_15 : decode cX8_told 15 = .ok (.iconst 0, 1) := by decide +kernel
theorem dX8_told_16 : decode cX8_told 16 = .ok (.invokevirtual 89, 3) := by decide +kernel
theorem dX8_told_19 : decode cX8_told 19 = .ok (.iload_n 1, 1) := by decide +kernel
theorem dX8_told_20 : decode cX8_told 20 = .ok (.tableswitch 145 0 10 #[60, 68, 76, 84, 92, 100, 108, 116, 124, 132, 140], 60) := by decide +kernel
theorem dX8_told_80 : decode cX8_told 80 = .ok (.aload_n 0, 1) := by decide +kernel
theorem dX8_told_81 : decode cX8_told 81 = .ok (.getfield 16, 3) := by decide +kernel
theorem dX8_told_84 : decode cX8_told 84 = .ok (.getfield 70, 3) := by decide +kernel
theorem dX8_told_87 : decode cX8_told 87 = .ok (.ireturn, 1) := by decide +kernel
theorem dX8_told_88 : decode cX8_told 88 = .ok (.aload_n 0, 1) := by decide +kernel
theorem dX8_told_89 : decode cX8_told 89 = .ok (.getfield 16, 3) := by decide +kernel
theorem dX8_told_92 : decode cX8_told 92 = .ok (.getfield 109, 3) := by decide +kernel
theorem dX8_told_95 : decode cX8_told 95 = .ok (.ireturn, 1) := by decide +kernel
theorem dX8_told_96 : decode cX8_told 96 = .ok (.aload_n 0, 1) := by decide +kernel
theorem dX8_told_97 : decode cX8_told 97 = .ok (.getfield 16, 3) := by decide +kernel
theorem dX8_told_100 : decode cX8_told 100 = .ok (.getfield 163, 3) := by decide +kernel
theorem dX8_told_103 : decode cX8_told 103 = .ok (.ireturn, 1) := by decide +kernel
theorem dX8_told_104 : decode cX8_told 104 = .ok (.aload_n 0, 1) := by decide +kernel
theorem dX8_told_105 : decode cX8_told 105 = .ok (.getfield 16, 3) := by decide +kernel
theorem dX8_told_108 : decode cX8_told 108 = .ok (.getfield 147, 3) := by decide +kernel
theorem dX8_told_111 : decode cX8_told 111 = .ok (.ireturn, 1) := by decide +kernel
theorem dX8_told_112 : decode cX8_told 112 = .ok (.aload_n 0, 1) := by decide +kernel
theorem dX8_told_113 : decode cX8_told 113 = .ok (.getfield 16, 3) := by decide +kernel
theorem dX8_told_116 : decode cX8_told 116 = .ok (.getfield 115, 3) := by decide +kernel
theorem dX8_told_119 : decode cX8_told 119 = .ok (.ireturn, 1) := by decide +kernel
theorem dX8_told_120 : decode cX8_told 120 = .ok (.aload_n 0, 1) := by decide +kernel
theorem dX8_told_121 : decode cX8_told 121 = .ok (.getfield 16, 3) := by decide +kernel
theorem dX8_told_124 : decode cX8_told 124 = .ok (.getfield 118, 3) := by decide +kernel
theorem dX8_told_127 : decode cX8_told 127 = .ok (.ireturn, 1) := by decide +kernel
theorem dX8_told_128 : decode cX8_told 128 = .ok (.aload_n 0, 1) := by decide +kernel
theorem dX8_told_129 : decode cX8_told 129 = .ok (.getfield 54, 3) := by decide +kernel
theorem dX8_told_132 : decode cX8_told 132 = .ok (.getfield 166, 3) := by decide +kernel
theorem dX8_told_135 : decode cX8_told 135 = .ok (.ireturn, 1) := by decide +kernel
theorem dX8_told_136 : decode cX8_told 136 = .ok (.aload_n 0, 1) := by decide +kernel
theorem dX8_told_137 : decode cX8_told 137 = .ok (.getfield 54, 3) := by decide +kernel
theorem dX8_told_140 : decode cX8_told 140 = .ok (.invokevirtual 169, 3) := by decide +kernel
theorem dX8_told_143 : decode cX8_told 143 = .ok (.ireturn, 1) := by decide +kernel
theorem dX8_told_144 : decode cX8_told 144 = .ok (.aload_n 0, 1) := by decide +kernel
theorem dX8_told_145 : decode cX8_told 145 = .ok (.getfield 54, 3) := by decide +kernel
theorem dX8_told_148 : decode cX8_told 148 = .ok (.invokevirtual 173, 3) := by decide +kernel
theorem dX8_told_151 : decode cX8_told 151 = .ok (.ireturn, 1) := by decide +kernel
theorem dX8_told_152 : decode cX8_told 152 = .ok (.aload_n 0, 1) := by decide +kernel
theorem dX8_told_153 : decode cX8_told 153 = .ok (.getfield 54, 3) := by decide +kernel
theorem dX8_told_156 : decode cX8_told 156 = .ok (.invokevirtual 176, 3) := by decide +kernel
theorem dX8_told_159 : decode cX8_told 159 = .ok (.ireturn, 1) := by decide +kernel
theorem dX8_told_160 : decode cX8_told 160 = .ok (.aload_n 0, 1) := by decide +kernel
theorem dX8_told_161 : decode cX8_told 161 = .ok (.getfield 24, 3) := by decide +kernel
theorem dX8_told_164 : decode cX8_told 164 = .ok (.ireturn, 1) := by decide +kernel
theorem dX8_told_165 : decode cX8_told 165 = .ok (.aload_n 0, 1) := by decide +kernel
theorem dX8_told_166 : decode cX8_told 166 = .ok (.getfield 31, 3) := by decide +kernel
theorem dX8_told_169 : decode cX8_told 169 = .ok (.ireturn, 1) := by decide +kernel
theorem dX8_age_0 : decode cX8_age 0 = .ok (.aload_n 0, 1) := by decide +kernel
theorem dX8_age_1 : decode cX8_age 1 = .ok (.iload_n 1, 1) := by decide +kernel
theorem dX8_age_2 : decode cX8_age 2 = .ok (.invokevirtual 179, 3) := by decide +kernel
theorem dX8_age_5 : decode cX8_age 5 = .ok (.aload_n 0, 1) := by decide +kernel
theorem dX8_age_6 : decode cX8_age 6 = .ok (.getfield 9, 3) := by decide +kernel
theorem dX8_age_9 : decode cX8_age 9 = .ok (.iload_n 1, 1) := by decide +kernel
theorem dX8_age_10 : decode cX8_age 10 = .ok (.iaload, 1) := by decide +kernel
theorem dX8_age_11 : decode cX8_age 11 = .ok (.ireturn, 1) := by decide +kernel
theorem dX8_years_0 : decode cX8_years 0 = .ok (.aload_n 0, 1) := by decide +kernel
theorem dX8_years_1 : decode cX8_years 1 = .ok (.iload_n 1, 1) := by decide +kernel
theorem dX8_years_2 : decode cX8_years 2 = .ok (.ifCond .lt 23, 3) := by decide +kernel
theorem dX8_years_5 : decode cX8_years 5 = .ok (.iload_n 1, 1) := by decide +kernel
theorem dX8_years_6 : decode cX8_years 6 = .ok (.sipush 9999, 3) := by decide +kernel
theorem dX8_years_9 : decode cX8_years 9 = .ok (.if_icmp .gt 16, 3) := by decide +kernel
theorem dX8_years_12 : decode cX8_years 12 = .ok (.iload_n 2, 1) := by decide +kernel
theorem dX8_years_13 : decode cX8_years 13 = .ok (.ifCond .lt 12, 3) := by decide +kernel
theorem dX8_years_16 : decode cX8_years 16 = .ok (.iload_n 2, 1) := by decide +kernel
theorem dX8_years_17 : decode cX8_years 17 = .ok (.iconst 2, 1) := by decide +kernel
theorem dX8_years_18 : decode cX8_years 18 = .ok (.if_icmp .gt 7, 3) := by decide +kernel
theorem dX8_years_21 : decode cX8_years 21 = .ok (.iconst 1, 1) := by decide +kernel
theorem dX8_years_22 : decode cX8_years 22 = .ok (.goto 4, 3) := by decide +kernel
theorem dX8_years_25 : decode cX8_years 25 = .ok (.iconst 0, 1) := by decide +kernel
theorem dX8_years_26 : decode cX8_years 26 = .ok (.invokevirtual 89, 3) := by decide +kernel
theorem dX8_years_29 : decode cX8_years 29 = .ok (.iconst 0, 1) := by decide +kernel
theorem dX8_years_30 : decode cX8_years 30 = .ok (.istore_n 3, 1) := by decide +kernel
theorem dX8_years_31 : decode cX8_years 31 = .ok (.iconst (-1), 1) := by decide +kernel
theorem dX8_years_32 : decode cX8_years 32 = .ok (.istore 4, 2) := by decide +kernel
theorem dX8_years_34 : decode cX8_years 34 = .ok (.iconst (-1), 1) := by decide +kernel
theorem dX8_years_35 : decode cX8_years 35 = .ok (.istore 5, 2) := by decide +kernel
theorem dX8_years_37 : decode cX8_years 37 = .ok (.iconst 0, 1) := by decide +kernel
theorem dX8_years_38 : decode cX8_years 38 = .ok (.istore 6, 2) := by decide +kernel
theorem dX8_years_40 : decode cX8_years 40 = .ok (.iload 6, 2) := by decide +kernel
theorem dX8_years_42 : decode cX8_years 42 = .ok (.sipush 1000, 3) := by decide +kernel
theorem dX8_years_45 : decode cX8_years 45 = .ok (.if_icmp .ge 42, 3) := by decide +kernel
theorem dX8_years_48 : decode cX8_years 48 = .ok (.aload_n 0, 1) := by decide +kernel
theorem dX8_years_49 : decode cX8_years 49 = .ok (.getfield 9, 3) := by decide +kernel
theorem dX8_years_52 : decode cX8_years 52 = .ok (.iload 6, 2) := by decide +kernel
theorem dX8_years_54 : decode cX8_years 54 = .ok (.iaload, 1) := by decide +kernel
theorem dX8_years_55 : decode cX8_years 55 = .ok (.iload_n 1, 1) := by decide +kernel
theorem dX8_years_56 : decode cX8_years 56 = .ok (.if_icmp .ne 25, 3) := by decide +kernel
theorem dX8_years_59 : decode cX8_years 59 = .ok (.iinc 3 1, 3) := by decide +kernel
theorem dX8_years_62 : decode cX8_years 62 = .ok (.iload 4, 2) := by decide +kernel
theorem dX8_years_64 : decode cX8_years 64 = .ok (.iconst (-1), 1) := by decide +kernel
theorem dX8_years_65 : decode cX8_years 65 = .ok (.if_icmp .ne 8, 3) := by decide +kernel
theorem dX8_years_68 : decode cX8_years 68 = .ok (.iload 6, 2) := by decide +kernel
theorem dX8_years_70 : decode cX8_years 70 = .ok (.goto 5, 3) := by decide +kernel
theorem dX8_years_73 : decode cX8_years 73 = .ok (.iload 4, 2) := by decide +kernel
theorem dX8_years_75 : decode cX8_years 75 = .ok (.istore 4, 2) := by decide +kernel
theorem dX8_years_77 : decode cX8_years 77 = .ok (.iload 6, 2) := by decide +kernel
theorem dX8_years_79 : decode cX8_years 79 = .ok (.istore 5, 2) := by decide +kernel
theorem dX8_years_81 : decode cX8_years 81 = .ok (.iinc 6 1, 3) := by decide +kernel
theorem dX8_years_84 : decode cX8_years 84 = .ok (.goto (-44), 3) := by decide +kernel
theorem dX8_years_87 : decode cX8_years 87 = .ok (.iload_n 2, 1) := by decide +kernel
theorem dX8_years_88 : decode cX8_years 88 = .ok (.ifCond .ne 7, 3) := by decide +kernel
theorem dX8_years_91 : decode cX8_years 91 = .ok (.iload_n 3, 1) := by decide +kernel
theorem dX8_years_92 : decode cX8_years 92 = .ok (.goto 15, 3) := by decide +kernel
theorem dX8_years_95 : decode cX8_years 95 = .ok (.iload_n 2, 1) := by decide +kernel
theorem dX8_years_96 : decode cX8_years 96 = .ok (.iconst 1, 1) := by decide +kernel
theorem dX8_years_97 : decode cX8_years 97 = .ok (.if_icmp .ne 8, 3) := by decide +kernel
theorem dX8_years_100 : decode cX8_years 100 = .ok (.iload 4, 2) := by decide +kernel
theorem dX8_years_102 : decode cX8_years 102 = .ok (.goto 5, 3) := by decide +kernel
theorem dX8_years_105 : decode cX8_years 105 = .ok (.iload 5, 2) := by decide +kernel
theorem dX8_years_107 : decode cX8_years 107 = .ok (.ireturn, 1) := by decide +kernel
theorem dX8_knot_0 : decode cX8_knot 0 = .ok (.aload_n 0, 1) := by decide +kernel
theorem dX8_knot_1 : decode cX8_knot 1 = .ok (.iload_n 1, 1) := by decide +kernel
theorem dX8_knot_2 : decode cX8_knot 2 = .ok (.ifCond .lt 18, 3) := by decide +kernel
theorem dX8_knot_5 : decode cX8_knot 5 = .ok (.iload_n 1, 1) := by decide +kernel
theorem dX8_knot_6 : decode cX8_knot 6 = .ok (.aload_n 0, 1) := by decide +kernel
theorem dX8_knot_7 : decode cX8_knot 7 = .ok (.getfield 16, 3) := by decide +kernel
theorem dX8_knot_10 : decode cX8_knot 10 = .ok (.getfield 70, 3) := by decide +kernel
theorem dX8_knot_13 : decode cX8_knot 13 = .ok (.if_icmp .ge 7, 3) := by decide +kernel
theorem dX8_knot_16 : decode cX8_knot 16 = .ok (.iconst 1, 1) := by decide +kernel
theorem dX8_knot_17 : decode cX8_knot 17 = .ok (.goto 4, 3) := by decide +kernel
theorem dX8_knot_20 : decode cX8_knot 20 = .ok (.iconst 0, 1) := by decide +kernel
theorem dX8_knot_21 : decode cX8_knot 21 = .ok (.invokevirtual 182, 3) := by decide +kernel
theorem dX8_knot_24 : decode cX8_knot 24 = .ok (.aload_n 0, 1) := by decide +kernel
theorem dX8_knot_25 : decode cX8_knot 25 = .ok (.iload_n 2, 1) := by decide +kernel
theorem dX8_knot_26 : decode cX8_knot 26 = .ok (.ifCond .eq 8, 3) := by decide +kernel
theorem dX8_knot_29 : decode cX8_knot 29 = .ok (.iload_n 2, 1) := by decide +kernel
theorem dX8_knot_30 : decode cX8_knot 30 = .ok (.iconst 1, 1) := by decide +kernel
theorem dX8_knot_31 : decode cX8_knot 31 = .ok (.if_icmp .ne 7, 3) := by decide +kernel
theorem dX8_knot_34 : decode cX8_knot 34 = .ok (.iconst 1, 1) := by decide +kernel
theorem dX8_knot_35 : decode cX8_knot 35 = .ok (.goto 4, 3) := by decide +kernel
theorem dX8_knot_38 : decode cX8_knot 38 = .ok (.iconst 0, 1) := by decide +kernel
theorem dX8_knot_39 : decode cX8_knot 39 = .ok (.invokevirtual 89, 3) := by decide +kernel
theorem dX8_knot_42 : decode cX8_knot 42 = .ok (.iload_n 2, 1) := by decide +kernel
theorem dX8_knot_43 : decode cX8_knot 43 = .ok (.ifCond .ne 15, 3) := by decide +kernel
theorem dX8_knot_46 : decode cX8_knot 46 = .ok (.aload_n 0, 1) := by decide +kernel
theorem dX8_knot_47 : decode cX8_knot 47 = .ok (.getfield 16, 3) := by decide +kernel
theorem dX8_knot_50 : decode cX8_knot 50 = .ok (.getfield 73, 3) := by decide +kernel
theorem dX8_knot_53 : decode cX8_knot 53 = .ok (.iload_n 1, 1) := by decide +kernel
theorem dX8_knot_54 : decode cX8_knot 54 = .ok (.iaload, 1) := by decide +kernel
theorem dX8_knot_55 : decode cX8_knot 55 = .ok (.goto 12, 3) := by decide +kernel
theorem dX8_knot_58 : decode cX8_knot 58 = .ok (.aload_n 0, 1) := by decide +kernel
theorem dX8_knot_59 : decode cX8_knot 59 = .ok (.getfield 16, 3) := by decide +kernel
theorem dX8_knot_62 : decode cX8_knot 62 = .ok (.getfield 76, 3) := by decide +kernel
theorem dX8_knot_65 : decode cX8_knot 65 = .ok (.iload_n 1, 1) := by decide +kernel
theorem dX8_knot_66 : decode cX8_knot 66 = .ok (.iaload, 1) := by decide +kernel
theorem dX8_knot_67 : decode cX8_knot 67 = .ok (.ireturn, 1) := by decide +kernel
theorem dX8_sample_0 : decode cX8_sample 0 = .ok (.aload_n 0, 1) := by decide +kernel
theorem dX8_sample_1 : decode cX8_sample 1 = .ok (.iload_n 1, 1) := by decide +kernel
theorem dX8_sample_2 : decode cX8_sample 2 = .ok (.invokevirtual 121, 3) := by decide +kernel
theorem dX8_sample_5 : decode cX8_sample 5 = .ok (.aload_n 0, 1) := by decide +kernel
theorem dX8_sample_6 : decode cX8_sample 6 = .ok (.iload_n 2, 1) := by decide +kernel
theorem dX8_sample_7 : decode cX8_sample 7 = .ok (.ifCond .lt 13, 3) := by decide +kernel
theorem dX8_sample_10 : decode cX8_sample 10 = .ok (.iload_n 2, 1) := by decide +kernel
theorem dX8_sample_11 : decode cX8_sample 11 = .ok (.bipush 9, 2) := by decide +kernel
theorem dX8_sample_13 : decode cX8_sample 13 = .ok (.if_icmp .gt 7, 3) := by decide +kernel
theorem dX8_sample_16 : decode cX8_sample 16 = .ok (.iconst 1, 1) := by decide +kernel
theorem dX8_sample_17 : decode cX8_sample 17 = .ok (.goto 4, 3) := by decide +kernel
theorem dX8_sample_20 : decode cX8_sample 20 = .ok (.iconst 0, 1) := by decide +kernel
theorem dX8_sample_21 : decode cX8_sample 21 = .ok (.invokevirtual 89, 3) := by decide +kernel
theorem dX8_sample_24 : decode cX8_sample 24 = .ok (.iload_n 2, 1) := by decide +kernel
theorem dX8_sample_25 : decode cX8_sample 25 = .ok (.tableswitch 163 0 8 #[51, 72, 85, 98, 111, 121, 131, 141, 154], 51) := by decide +kernel
theorem dX8_sample_76 : decode cX8_sample 76 = .ok (.aload_n 0, 1) := by decide +kernel
theorem dX8_sample_77 : decode cX8_sample 77 = .ok (.getfield 16, 3) := by decide +kernel
theorem dX8_sample_80 : decode cX8_sample 80 = .ok (.getfield 124, 3) := by decide +kernel
theorem dX8_sample_83 : decode cX8_sample 83 = .ok (.iload_n 1, 1) := by decide +kernel
theorem dX8_sample_84 : decode cX8_sample 84 = .ok (.aaload, 1) := by decide +kernel
theorem dX8_sample_85 : decode cX8_sample 85 = .ok (.getfield 128, 3) := by decide +kernel
theorem dX8_sample_88 : decode cX8_sample 88 = .ok (.ifCond .eq 7, 3) := by decide +kernel
theorem dX8_sample_91 : decode cX8_sample 91 = .ok (.iconst 1, 1) := by decide +kernel
theorem dX8_sample_92 : decode cX8_sample 92 = .ok (.goto 4, 3) := by decide +kernel
theorem dX8_sample_95 : decode cX8_sample 95 = .ok (.iconst 0, 1) := by decide +kernel
theorem dX8_sample_96 : decode cX8_sample 96 = .ok (.ireturn, 1) := by decide +kernel
theorem dX8_sample_97 : decode cX8_sample 97 = .ok (.aload_n 0, 1) := by decide +kernel
theorem dX8_sample_98 : decode cX8_sample 98 = .ok (.getfield 16, 3) := by decide +kernel
theorem dX8_sample_101 : decode cX8_sample 101 = .ok (.getfield 124, 3) := by decide +kernel
theorem dX8_sample_104 : decode cX8_sample 104 = .ok (.iload_n 1, 1) := by decide +kernel
theorem dX8_sample_105 : decode cX8_sample 105 = .ok (.aaload, 1) := by decide +kernel
theorem dX8_sample_106 : decode cX8_sample 106 = .ok (.getfield 134, 3) := by decide +kernel
theorem dX8_sample_109 : decode cX8_sample 109 = .ok (.ireturn, 1) := by decide +kernel
theorem dX8_sample_110 : decode cX8_sample 110 = .ok (.aload_n 0, 1) := by decide +kernel
theorem dX8_sample_111 : decode cX8_sample 111 = .ok (.getfield 16, 3) := by decide +kernel
theorem dX8_sample_114 : decode cX8_sample 114 = .ok (.getfield 124, 3) := by decide +kernel
theorem dX8_sample_117 : decode cX8_sample 117 = .ok (.iload_n 1, 1) := by decide +kernel
theorem dX8_sample_118 : decode cX8_sample 118 = .ok (.aaload, 1) := by decide +kernel
theorem dX8_sample_119 : decode cX8_sample 119 = .ok (.getfield 137, 3) := by decide +kernel
theorem dX8_sample_122 : decode cX8_sample 122 = .ok (.ireturn, 1) := by decide +kernel
theorem dX8_sample_123 : decode cX8_sample 123 = .ok (.aload_n 0, 1) := by decide +kernel
theorem dX8_sample_124 : decode cX8_sample 124 = .ok (.getfield 54, 3) := by decide +kernel
theorem dX8_sample_127 : decode cX8_sample 127 = .ok (.getfield 185, 3) := by decide +kernel
theorem dX8_sample_130 : decode cX8_sample 130 = .ok (.iload_n 1, 1) := by decide +kernel
theorem dX8_sample_131 : decode cX8_sample 131 = .ok (.aaload, 1) := by decide +kernel
theorem dX8_sample_132 : decode cX8_sample 132 = .ok (.invokestatic 189, 3) := by decide +kernel
theorem dX8_sample_135 : decode cX8_sample 135 = .ok (.ireturn, 1) := by decide +kernel
theorem dX8_sample_136 : decode cX8_sample 136 = .ok (.aload_n 0, 1) := by decide +kernel
theorem dX8_sample_137 : decode cX8_sample 137 = .ok (.getfield 54, 3) := by decide +kernel
theorem dX8_sample_140 : decode cX8_sample 140 = .ok (.getfield 195, 3) := by decide +kernel
theorem dX8_sample_143 : decode cX8_sample 143 = .ok (.iload_n 1, 1) := by decide +kernel
theorem dX8_sample_144 : decode cX8_sample 144 = .ok (.iaload, 1) := by decide +kernel
theorem dX8_sample_145 : decode cX8_sample 145 = .ok (.ireturn, 1) := by decide +kernel
theorem dX8_sample_146 : decode cX8_sample 146 = .ok (.aload_n 0, 1) := by decide +kernel
theorem dX8_sample_147 : decode cX8_sample 147 = .ok (.getfield 54, 3) := by decide +kernel
theorem dX8_sample_150 : decode cX8_sample 150 = .ok (.getfield 198, 3) := by decide +kernel
theorem dX8_sample_153 : decode cX8_sample 153 = .ok (.iload_n 1, 1) := by decide +kernel
theorem dX8_sample_154 : decode cX8_sample 154 = .ok (.iaload, 1) := by decide +kernel
theorem dX8_sample_155 : decode cX8_sample 155 = .ok (.ireturn, 1) := by decide +kernel
theorem dX8_sample_156 : decode cX8_sample 156 = .ok (.aload_n 0, 1) := by decide +kernel
theorem dX8_sample_157 : decode cX8_sample 157 = .ok (.getfield 54, 3) := by decide +kernel
theorem dX8_sample_160 : decode cX8_sample 160 = .ok (.getfield 201, 3) := by decide +kernel
theorem dX8_sample_163 : decode cX8_sample 163 = .ok (.iload_n 1, 1) := by decide +kernel
theorem dX8_sample_164 : decode cX8_sample 164 = .ok (.iaload, 1) := by decide +kernel
theorem dX8_sample_165 : decode cX8_sample 165 = .ok (.ireturn, 1) := by decide +kernel
theorem dX8_sample_166 : decode cX8_sample 166 = .ok (.aload_n 0, 1) := by decide +kernel
theorem dX8_sample_167 : decode cX8_sample 167 = .ok (.getfield 54, 3) := by decide +kernel
theorem dX8_sample_170 : decode cX8_sample 170 = .ok (.getfield 204, 3) := by decide +kernel
theorem dX8_sample_173 : decode cX8_sample 173 = .ok (.iload_n 1, 1) := by decide +kernel
theorem dX8_sample_174 : decode cX8_sample 174 = .ok (.aaload, 1) := by decide +kernel
theorem dX8_sample_175 : decode cX8_sample 175 = .ok (.invokestatic 207, 3) := by decide +kernel
theorem dX8_sample_178 : decode cX8_sample 178 = .ok (.ireturn, 1) := by decide +kernel
theorem dX8_sample_179 : decode cX8_sample 179 = .ok (.aload_n 0, 1) := by decide +kernel
theorem dX8_sample_180 : decode cX8_sample 180 = .ok (.getfield 54, 3) := by decide +kernel
theorem dX8_sample_183 : decode cX8_sample 183 = .ok (.iload_n 1, 1) := by decide +kernel
theorem dX8_sample_184 : decode cX8_sample 184 = .ok (.invokevirtual 210, 3) := by decide +kernel
theorem dX8_sample_187 : decode cX8_sample 187 = .ok (.ireturn, 1) := by decide +kernel
theorem dX8_sample_188 : decode cX8_sample 188 = .ok (.aload_n 0, 1) := by decide +kernel
theorem dX8_sample_189 : decode cX8_sample 189 = .ok (.iload_n 1, 1) := by decide +kernel
theorem dX8_sample_190 : decode cX8_sample 190 = .ok (.aload_n 0, 1) := by decide +kernel
theorem dX8_sample_191 : decode cX8_sample 191 = .ok (.getfield 54, 3) := by decide +kernel
theorem dX8_sample_194 : decode cX8_sample 194 = .ok (.iload_n 1, 1) := by decide +kernel
theorem dX8_sample_195 : decode cX8_sample 195 = .ok (.invokevirtual 210, 3) := by decide +kernel
theorem dX8_sample_198 : decode cX8_sample 198 = .ok (.invokevirtual 214, 3) := by decide +kernel
theorem dX8_sample_201 : decode cX8_sample 201 = .ok (.ireturn, 1) := by decide +kernel
theorem dX8_interval_0 : decode cX8_interval 0 = .ok (.aload_n 0, 1) := by decide +kernel
theorem dX8_interval_1 : decode cX8_interval 1 = .ok (.iload_n 1, 1) := by decide +kernel
theorem dX8_interval_2 : decode cX8_interval 2 = .ok (.invokevirtual 121, 3) := by decide +kernel
theorem dX8_interval_5 : decode cX8_interval 5 = .ok (.aload_n 0, 1) := by decide +kernel
theorem dX8_interval_6 : decode cX8_interval 6 = .ok (.getfield 54, 3) := by decide +kernel
theorem dX8_interval_9 : decode cX8_interval 9 = .ok (.getfield 204, 3) := by decide +kernel
theorem dX8_interval_12 : decode cX8_interval 12 = .ok (.iload_n 1, 1) := by decide +kernel
theorem dX8_interval_13 : decode cX8_interval 13 = .ok (.aaload, 1) := by decide +kernel
theorem dX8_interval_14 : decode cX8_interval 14 = .ok (.iload_n 2, 1) := by decide +kernel
theorem dX8_interval_15 : decode cX8_interval 15 = .ok (.invokestatic 218, 3) := by decide +kernel
theorem dX8_interval_18 : decode cX8_interval 18 = .ok (.istore 4, 2) := by decide +kernel
theorem dX8_interval_20 : decode cX8_interval 20 = .ok (.aload_n 0, 1) := by decide +kernel
theorem dX8_interval_21 : decode cX8_interval 21 = .ok (.iload 4, 2) := by decide +kernel
theorem dX8_interval_23 : decode cX8_interval 23 = .ok (.sipush 1000, 3) := by decide +kernel
theorem dX8_interval_26 : decode cX8_interval 26 = .ok (.if_icmp .ge 7, 3) := by decide +kernel
theorem dX8_interval_29 : decode cX8_interval 29 = .ok (.iconst 1, 1) := by decide +kernel
theorem dX8_interval_30 : decode cX8_interval 30 = .ok (.goto 4, 3) := by decide +kernel
theorem dX8_interval_33 : decode cX8_interval 33 = .ok (.iconst 0, 1) := by decide +kernel
theorem dX8_interval_34 : decode cX8_interval 34 = .ok (.invokevirtual 182, 3) := by decide +kernel
theorem dX8_interval_37 : decode cX8_interval 37 = .ok (.aload_n 0, 1) := by decide +kernel
theorem dX8_interval_38 : decode cX8_interval 38 = .ok (.iload_n 3, 1) := by decide +kernel
theorem dX8_interval_39 : decode cX8_interval 39 = .ok (.ifCond .eq 8, 3) := by decide +kernel
theorem dX8_interval_42 : decode cX8_interval 42 = .ok (.iload_n 3, 1) := by decide +kernel
theorem dX8_interval_43 : decode cX8_interval 43 = .ok (.iconst 1, 1) := by decide +kernel
theorem dX8_interval_44 : decode cX8_interval 44 = .ok (.if_icmp .ne 7, 3) := by decide +kernel
theorem dX8_interval_47 : decode cX8_interval 47 = .ok (.iconst 1, 1) := by decide +kernel
theorem dX8_interval_48 : decode cX8_interval 48 = .ok (.goto 4, 3) := by decide +kernel
theorem dX8_interval_51 : decode cX8_interval 51 = .ok (.iconst 0, 1) := by decide +kernel
theorem dX8_interval_52 : decode cX8_interval 52 = .ok (.invokevirtual 89, 3) := by decide +kernel
theorem dX8_interval_55 : decode cX8_interval 55 = .ok (.iload_n 3, 1) := by decide +kernel
theorem dX8_interval_56 : decode cX8_interval 56 = .ok (.ifCond .ne 8, 3) := by decide +kernel
theorem dX8_interval_59 : decode cX8_interval 59 = .ok (.iload 4, 2) := by decide +kernel
theorem dX8_interval_61 : decode cX8_interval 61 = .ok (.goto 19, 3) := by decide +kernel
theorem dX8_interval_64 : decode cX8_interval 64 = .ok (.aload_n 0, 1) := by decide +kernel
theorem dX8_interval_65 : decode cX8_interval 65 = .ok (.getfield 54, 3) := by decide +kernel
theorem dX8_interval_68 : decode cX8_interval 68 = .ok (.getfield 204, 3) := by decide +kernel
theorem dX8_interval_71 : decode cX8_interval 71 = .ok (.iload_n 1, 1) := by decide +kernel
theorem dX8_interval_72 : decode cX8_interval 72 = .ok (.aaload, 1) := by decide +kernel
theorem dX8_interval_73 : decode cX8_interval 73 = .ok (.iload 4, 2) := by decide +kernel
theorem dX8_interval_75 : decode cX8_interval 75 = .ok (.invokestatic 222, 3) := by decide +kernel
theorem dX8_interval_78 : decode cX8_interval 78 = .ok (.iconst 1, 1) := by decide +kernel
theorem dX8_interval_79 : decode cX8_interval 79 = .ok (.isub, 1) := by decide +kernel
theorem dX8_interval_80 : decode cX8_interval 80 = .ok (.ireturn, 1) := by decide +kernel
theorem dX8_misfit_0 : decode cX8_misfit 0 = .ok (.aload_n 0, 1) := by decide +kernel
theorem dX8_misfit_1 : decode cX8_misfit 1 = .ok (.iload_n 1, 1) := by decide +kernel
theorem dX8_misfit_2 : decode cX8_misfit 2 = .ok (.invokevirtual 121, 3) := by decide +kernel
theorem dX8_misfit_5 : decode cX8_misfit 5 = .ok (.aload_n 0, 1) := by decide +kernel
theorem dX8_misfit_6 : decode cX8_misfit 6 = .ok (.iload_n 2, 1) := by decide +kernel
theorem dX8_misfit_7 : decode cX8_misfit 7 = .ok (.invokevirtual 179, 3) := by decide +kernel
theorem dX8_misfit_10 : decode cX8_misfit 10 = .ok (.aload_n 0, 1) := by decide +kernel
theorem dX8_misfit_11 : decode cX8_misfit 11 = .ok (.iload_n 1, 1) := by decide +kernel
theorem dX8_misfit_12 : decode cX8_misfit 12 = .ok (.iload_n 2, 1) := by decide +kernel
theorem dX8_misfit_13 : decode cX8_misfit 13 = .ok (.invokevirtual 214, 3) := by decide +kernel
theorem dX8_misfit_16 : decode cX8_misfit 16 = .ok (.ireturn, 1) := by decide +kernel
theorem dX8_place_0 : decode cX8_place 0 = .ok (.aload_n 0, 1) := by decide +kernel
theorem dX8_place_1 : decode cX8_place 1 = .ok (.iload_n 1, 1) := by decide +kernel
theorem dX8_place_2 : decode cX8_place 2 = .ok (.invokevirtual 121, 3) := by decide +kernel
theorem dX8_place_5 : decode cX8_place 5 = .ok (.aload_n 0, 1) := by decide +kernel
theorem dX8_place_6 : decode cX8_place 6 = .ok (.iload_n 2, 1) := by decide +kernel
theorem dX8_place_7 : decode cX8_place 7 = .ok (.invokevirtual 179, 3) := by decide +kernel
theorem dX8_place_10 : decode cX8_place 10 = .ok (.aload_n 0, 1) := by decide +kernel
theorem dX8_place_11 : decode cX8_place 11 = .ok (.getfield 54, 3) := by decide +kernel
theorem dX8_place_14 : decode cX8_place 14 = .ok (.getfield 204, 3) := by decide +kernel
theorem dX8_place_17 : decode cX8_place 17 = .ok (.iload_n 1, 1) := by decide +kernel
theorem dX8_place_18 : decode cX8_place 18 = .ok (.aaload, 1) := by decide +kernel
theorem dX8_place_19 : decode cX8_place 19 = .ok (.iload_n 2, 1) := by decide +kernel
theorem dX8_place_20 : decode cX8_place 20 = .ok (.invokestatic 225, 3) := by decide +kernel
theorem dX8_place_23 : decode cX8_place 23 = .ok (.ifCond .eq 5, 3) := by decide +kernel
theorem dX8_place_26 : decode cX8_place 26 = .ok (.iconst 3, 1) := by decide +kernel
theorem dX8_place_27 : decode cX8_place 27 = .ok (.ireturn, 1) := by decide +kernel
theorem dX8_place_28 : decode cX8_place 28 = .ok (.aload_n 0, 1) := by decide +kernel
theorem dX8_place_29 : decode cX8_place 29 = .ok (.getfield 54, 3) := by decide +kernel
theorem dX8_place_32 : decode cX8_place 32 = .ok (.getfield 185, 3) := by decide +kernel
theorem dX8_place_35 : decode cX8_place 35 = .ok (.iload_n 1, 1) := by decide +kernel
theorem dX8_place_36 : decode cX8_place 36 = .ok (.aaload, 1) := by decide +kernel
theorem dX8_place_37 : decode cX8_place 37 = .ok (.iload_n 2, 1) := by decide +kernel
theorem dX8_place_38 : decode cX8_place 38 = .ok (.invokestatic 225, 3) := by decide +kernel
theorem dX8_place_41 : decode cX8_place 41 = .ok (.ifCond .eq 7, 3) := by decide +kernel
theorem dX8_place_44 : decode cX8_place 44 = .ok (.iconst 1, 1) := by decide +kernel
theorem dX8_place_45 : decode cX8_place 45 = .ok (.goto 4, 3) := by decide +kernel
theorem dX8_place_48 : decode cX8_place 48 = .ok (.iconst 0, 1) := by decide +kernel
theorem dX8_place_49 : decode cX8_place 49 = .ok (.ireturn, 1) := by decide +kernel
theorem dX8_rule_0 : decode cX8_rule 0 = .ok (.aload_n 0, 1) := by decide +kernel
theorem dX8_rule_1 : decode cX8_rule 1 = .ok (.iload_n 1, 1) := by decide +kernel
theorem dX8_rule_2 : decode cX8_rule 2 = .ok (.invokevirtual 154, 3) := by decide +kernel
theorem dX8_rule_5 : decode cX8_rule 5 = .ok (.aload_n 0, 1) := by decide +kernel
theorem dX8_rule_6 : decode cX8_rule 6 = .ok (.iload_n 2, 1) := by decide +kernel
theorem dX8_rule_7 : decode cX8_rule 7 = .ok (.ifCond .lt 12, 3) := by decide +kernel
theorem dX8_rule_10 : decode cX8_rule 10 = .ok (.iload_n 2, 1) := by decide +kernel
theorem dX8_rule_11 : decode cX8_rule 11 = .ok (.iconst 5, 1) := by decide +kernel
theorem dX8_rule_12 : decode cX8_rule 12 = .ok (.if_icmp .gt 7, 3) := by decide +kernel
theorem dX8_rule_15 : decode cX8_rule 15 = .ok (.iconst 1, 1) := by decide +kernel
theorem dX8_rule_16 : decode cX8_rule 16 = .ok (.goto 4, 3) := by decide +kernel
theorem dX8_rule_19 : decode cX8_rule 19 = .ok (.iconst 0, 1) := by decide +kernel
theorem dX8_rule_20 : decode cX8_rule 20 = .ok (.invokevirtual 89, 3) := by decide +kernel
theorem dX8_rule_23 : decode cX8_rule 23 = .ok (.iload_n 2, 1) := by decide +kernel
theorem dX8_rule_24 : decode cX8_rule 24 = .ok (.tableswitch 101 0 4 #[36, 49, 62, 75, 88], 36) := by decide +kernel
theorem dX8_rule_60 : decode cX8_rule 60 = .ok (.aload_n 0, 1) := by decide +kernel
theorem dX8_rule_61 : decode cX8_rule 61 = .ok (.getfield 16, 3) := by decide +kernel
theorem dX8_rule_64 : decode cX8_rule 64 = .ok (.getfield 229, 3) := by decide +kernel
theorem dX8_rule_67 : decode cX8_rule 67 = .ok (.iload_n 1, 1) := by decide +kernel
theorem dX8_rule_68 : decode cX8_rule 68 = .ok (.aaload, 1) := by decide +kernel
theorem dX8_rule_69 : decode cX8_rule 69 = .ok (.getfield 233, 3) := by decide +kernel
theorem dX8_rule_72 : decode cX8_rule 72 = .ok (.ireturn, 1) := by decide +kernel
theorem dX8_rule_73 : decode cX8_rule 73 = .ok (.aload_n 0, 1) := by decide +kernel
theorem dX8_rule_74 : decode cX8_rule 74 = .ok (.getfield 16, 3) := by decide +kernel
theorem dX8_rule_77 : decode cX8_rule 77 = .ok (.getfield 229, 3) := by decide +kernel
theorem dX8_rule_80 : decode cX8_rule 80 = .ok (.iload_n 1, 1) := by decide +kernel
theorem dX8_rule_81 : decode cX8_rule 81 = .ok (.aaload, 1) := by decide +kernel
theorem dX8_rule_82 : decode cX8_rule 82 = .ok (.getfield 238, 3) := by decide +kernel
theorem dX8_rule_85 : decode cX8_rule 85 = .ok (.ireturn, 1) := by decide +kernel
theorem dX8_rule_86 : decode cX8_rule 86 = .ok (.aload_n 0, 1) := by decide +kernel
theorem dX8_rule_87 : decode cX8_rule 87 = .ok (.getfield 16, 3) := by decide +kernel
theorem dX8_rule_90 : decode cX8_rule 90 = .ok (.getfield 229, 3) := by decide +kernel
theorem dX8_rule_93 : decode cX8_rule 93 = .ok (.iload_n 1, 1) := by decide +kernel
theorem dX8_rule_94 : decode cX8_rule 94 = .ok (.aaload, 1) := by decide +kernel
theorem dX8_rule_95 : decode cX8_rule 95 = .ok (.getfield 241, 3) := by decide +kernel
theorem dX8_rule_98 : decode cX8_rule 98 = .ok (.ireturn, 1) := by decide +kernel
theorem dX8_rule_99 : decode cX8_rule 99 = .ok (.aload_n 0, 1) := by decide +kernel
theorem dX8_rule_100 : decode cX8_rule 100 = .ok (.getfield 16, 3) := by decide +kernel
theorem dX8_rule_103 : decode cX8_rule 103 = .ok (.getfield 229, 3) := by decide +kernel
theorem dX8_rule_106 : decode cX8_rule 106 = .ok (.iload_n 1, 1) := by decide +kernel
theorem dX8_rule_107 : decode cX8_rule 107 = .ok (.aaload, 1) := by decide +kernel
theorem dX8_rule_108 : decode cX8_rule 108 = .ok (.getfield 244, 3) := by decide +kernel
theorem dX8_rule_111 : decode cX8_rule 111 = .ok (.ireturn, 1) := by decide +kernel
theorem dX8_rule_112 : decode cX8_rule 112 = .ok (.aload_n 0, 1) := by decide +kernel
theorem dX8_rule_113 : decode cX8_rule 113 = .ok (.getfield 16, 3) := by decide +kernel
theorem dX8_rule_116 : decode cX8_rule 116 = .ok (.getfield 229, 3) := by decide +kernel
theorem dX8_rule_119 : decode cX8_rule 119 = .ok (.iload_n 1, 1) := by decide +kernel
theorem dX8_rule_120 : decode cX8_rule 120 = .ok (.aaload, 1) := by decide +kernel
theorem dX8_rule_121 : decode cX8_rule 121 = .ok (.getfield 247, 3) := by decide +kernel
theorem dX8_rule_124 : decode cX8_rule 124 = .ok (.ireturn, 1) := by decide +kernel
theorem dX8_rule_125 : decode cX8_rule 125 = .ok (.aload_n 0, 1) := by decide +kernel
theorem dX8_rule_126 : decode cX8_rule 126 = .ok (.getfield 54, 3) := by decide +kernel
theorem dX8_rule_129 : decode cX8_rule 129 = .ok (.getfield 157, 3) := by decide +kernel
theorem dX8_rule_132 : decode cX8_rule 132 = .ok (.iload_n 1, 1) := by decide +kernel
theorem dX8_rule_133 : decode cX8_rule 133 = .ok (.iaload, 1) := by decide +kernel
theorem dX8_rule_134 : decode cX8_rule 134 = .ok (.ireturn, 1) := by decide +kernel
theorem dX8_clash_0 : decode cX8_clash 0 = .ok (.aload_n 0, 1) := by decide +kernel
theorem dX8_clash_1 : decode cX8_clash 1 = .ok (.iload_n 1, 1) := by decide +kernel
theorem dX8_clash_2 : decode cX8_clash 2 = .ok (.ifCond .eq 8, 3) := by decide +kernel
theorem dX8_clash_5 : decode cX8_clash 5 = .ok (.iload_n 1, 1) := by decide +kernel
theorem dX8_clash_6 : decode cX8_clash 6 = .ok (.iconst 1, 1) := by decide +kernel
theorem dX8_clash_7 : decode cX8_clash 7 = .ok (.if_icmp .ne 7, 3) := by decide +kernel
theorem dX8_clash_10 : decode cX8_clash 10 = .ok (.iconst 1, 1) := by decide +kernel
theorem dX8_clash_11 : decode cX8_clash 11 = .ok (.goto 4, 3) := by decide +kernel
theorem dX8_clash_14 : decode cX8_clash 14 = .ok (.iconst 0, 1) := by decide +kernel
theorem dX8_clash_15 : decode cX8_clash 15 = .ok (.invokevirtual 89, 3) := by decide +kernel
theorem dX8_clash_18 : decode cX8_clash 18 = .ok (.iload_n 1, 1) := by decide +kernel
theorem dX8_clash_19 : decode cX8_clash 19 = .ok (.ifCond .ne 13, 3) := by decide +kernel
theorem dX8_clash_22 : decode cX8_clash 22 = .ok (.aload_n 0, 1) := by decide +kernel
theorem dX8_clash_23 : decode cX8_clash 23 = .ok (.getfield 54, 3) := by decide +kernel
theorem dX8_clash_26 : decode cX8_clash 26 = .ok (.getfield 250, 3) := by decide +kernel
theorem dX8_clash_29 : decode cX8_clash 29 = .ok (.goto 10, 3) := by decide +kernel
theorem dX8_clash_32 : decode cX8_clash 32 = .ok (.aload_n 0, 1) := by decide +kernel
theorem dX8_clash_33 : decode cX8_clash 33 = .ok (.getfield 54, 3) := by decide +kernel
theorem dX8_clash_36 : decode cX8_clash 36 = .ok (.getfield 253, 3) := by decide +kernel
theorem dX8_clash_39 : decode cX8_clash 39 = .ok (.ireturn, 1) := by decide +kernel
theorem dX8_blame_0 : decode cX8_blame 0 = .ok (.iconst 0, 1) := by decide +kernel
theorem dX8_blame_1 : decode cX8_blame 1 = .ok (.istore_n 1, 1) := by decide +kernel
theorem dX8_blame_2 : decode cX8_blame 2 = .ok (.aload_n 0, 1) := by decide +kernel
theorem dX8_blame_3 : decode cX8_blame 3 = .ok (.getfield 54, 3) := by decide +kernel
theorem dX8_blame_6 : decode cX8_blame 6 = .ok (.invokevirtual 256, 3) := by decide +kernel
theorem dX8_blame_9 : decode cX8_blame 9 = .ok (.ifCond .eq 62, 3) := by decide +kernel
theorem dX8_blame_12 : decode cX8_blame 12 = .ok (.aload_n 0, 1) := by decide +kernel
theorem dX8_blame_13 : decode cX8_blame 13 = .ok (.getfield 58, 3) := by decide +kernel
theorem dX8_blame_16 : decode cX8_blame 16 = .ok (.aload_n 0, 1) := by decide +kernel
theorem dX8_blame_17 : decode cX8_blame 17 = .ok (.getfield 54, 3) := by decide +kernel
theorem dX8_blame_20 : decode cX8_blame 20 = .ok (.invokevirtual 260, 3) := by decide +kernel
theorem dX8_blame_23 : decode cX8_blame 23 = .ok (.iconst 0, 1) := by decide +kernel
theorem dX8_blame_24 : decode cX8_blame 24 = .ok (.istore_n 2, 1) := by decide +kernel
theorem dX8_blame_25 : decode cX8_blame 25 = .ok (.iload_n 2, 1) := by decide +kernel
theorem dX8_blame_26 : decode cX8_blame 26 = .ok (.aload_n 0, 1) := by decide +kernel
theorem dX8_blame_27 : decode cX8_blame 27 = .ok (.getfield 16, 3) := by decide +kernel
theorem dX8_blame_30 : decode cX8_blame 30 = .ok (.getfield 147, 3) := by decide +kernel
theorem dX8_blame_33 : decode cX8_blame 33 = .ok (.if_icmp .ge 38, 3) := by decide +kernel
theorem dX8_blame_36 : decode cX8_blame 36 = .ok (.aload_n 0, 1) := by decide +kernel
theorem dX8_blame_37 : decode cX8_blame 37 = .ok (.getfield 58, 3) := by decide +kernel
theorem dX8_blame_40 : decode cX8_blame 40 = .ok (.iload_n 2, 1) := by decide +kernel
theorem dX8_blame_41 : decode cX8_blame 41 = .ok (.iconst 1, 1) := by decide +kernel
theorem dX8_blame_42 : decode cX8_blame 42 = .ok (.invokevirtual 264, 3) := by decide +kernel
theorem dX8_blame_45 : decode cX8_blame 45 = .ok (.iload_n 1, 1) := by decide +kernel
theorem dX8_blame_46 : decode cX8_blame 46 = .ok (.aload_n 0, 1) := by decide +kernel
theorem dX8_blame_47 : decode cX8_blame 47 = .ok (.getfield 58, 3) := by decide +kernel
theorem dX8_blame_50 : decode cX8_blame 50 = .ok (.invokevirtual 256, 3) := by decide +kernel
theorem dX8_blame_53 : decode cX8_blame 53 = .ok (.ifCond .eq 7, 3) := by decide +kernel
theorem dX8_blame_56 : decode cX8_blame 56 = .ok (.iconst 0, 1) := by decide +kernel
theorem dX8_blame_57 : decode cX8_blame 57 = .ok (.goto 6, 3) := by decide +kernel
theorem dX8_blame_60 : decode cX8_blame 60 = .ok (.iconst 1, 1) := by decide +kernel
theorem dX8_blame_61 : decode cX8_blame 61 = .ok (.iload_n 2, 1) := by decide +kernel
theorem dX8_blame_62 : decode cX8_blame 62 = .ok (.ishl, 1) := by decide +kernel
theorem dX8_blame_63 : decode cX8_blame 63 = .ok (.ior, 1) := by decide +kernel
theorem dX8_blame_64 : decode cX8_blame 64 = .ok (.istore_n 1, 1) := by decide +kernel
theorem dX8_blame_65 : decode cX8_blame 65 = .ok (.iinc 2 1, 3) := by decide +kernel
theorem dX8_blame_68 : decode cX8_blame 68 = .ok (.goto (-43), 3) := by decide +kernel
theorem dX8_blame_71 : decode cX8_blame 71 = .ok (.iload_n 1, 1) := by decide +kernel
theorem dX8_blame_72 : decode cX8_blame 72 = .ok (.ireturn, 1) := by decide +kernel
theorem dX8_needless_0 : decode cX8_needless 0 = .ok (.iconst 0, 1) := by decide +kernel
theorem dX8_needless_1 : decode cX8_needless 1 = .ok (.istore_n 1, 1) := by decide +kernel
theorem dX8_needless_2 : decode cX8_needless 2 = .ok (.aload_n 0, 1) := by decide +kernel
theorem dX8_needless_3 : decode cX8_needless 3 = .ok (.getfield 58, 3) := by decide +kernel
theorem dX8_needless_6 : decode cX8_needless 6 = .ok (.aload_n 0, 1) := by decide +kernel
theorem dX8_needless_7 : decode cX8_needless 7 = .ok (.getfield 54, 3) := by decide +kernel
theorem dX8_needless_10 : decode cX8_needless 10 = .ok (.invokevirtual 260, 3) := by decide +kernel
theorem dX8_needless_13 : decode cX8_needless 13 = .ok (.iconst 0, 1) := by decide +kernel
theorem dX8_needless_14 : decode cX8_needless 14 = .ok (.istore_n 2, 1) := by decide +kernel
theorem dX8_needless_15 : decode cX8_needless 15 = .ok (.iload_n 2, 1) := by decide +kernel
theorem dX8_needless_16 : decode cX8_needless 16 = .ok (.aload_n 0, 1) := by decide +kernel
theorem dX8_needless_17 : decode cX8_needless 17 = .ok (.getfield 16, 3) := by decide +kernel
theorem dX8_needless_20 : decode cX8_needless 20 = .ok (.getfield 147, 3) := by decide +kernel
theorem dX8_needless_23 : decode cX8_needless 23 = .ok (.if_icmp .ge 42, 3) := by decide +kernel
theorem dX8_needless_26 : decode cX8_needless 26 = .ok (.aload_n 0, 1) := by decide +kernel
theorem dX8_needless_27 : decode cX8_needless 27 = .ok (.getfield 58, 3) := by decide +kernel
theorem dX8_needless_30 : decode cX8_needless 30 = .ok (.iload_n 2, 1) := by decide +kernel
theorem dX8_needless_31 : decode cX8_needless 31 = .ok (.iconst 0, 1) := by decide +kernel
theorem dX8_needless_32 : decode cX8_needless 32 = .ok (.invokevirtual 264, 3) := by decide +kernel
theorem dX8_needless_35 : decode cX8_needless 35 = .ok (.iload_n 1, 1) := by decide +kernel
theorem dX8_needless_36 : decode cX8_needless 36 = .ok (.aload_n 0, 1) := by decide +kernel
theorem dX8_needless_37 : decode cX8_needless 37 = .ok (.getfield 58, 3) := by decide +kernel
theorem dX8_needless_40 : decode cX8_needless 40 = .ok (.aload_n 0, 1) := by decide +kernel
theorem dX8_needless_41 : decode cX8_needless 41 = .ok (.getfield 54, 3) := by decide +kernel
theorem dX8_needless_44 : decode cX8_needless 44 = .ok (.invokevirtual 268, 3) := by decide +kernel
theorem dX8_needless_47 : decode cX8_needless 47 = .ok (.ifCond .eq 9, 3) := by decide +kernel
theorem dX8_needless_50 : decode cX8_needless 50 = .ok (.iconst 1, 1) := by decide +kernel
theorem dX8_needless_51 : decode cX8_needless 51 = .ok (.iload_n 2, 1) := by decide +kernel
theorem dX8_needless_52 : decode cX8_needless 52 = .ok (.ishl, 1) := by decide +kernel
theorem dX8_needless_53 : decode cX8_needless 53 = .ok (.goto 4, 3) := by decide +kernel
theorem dX8_needless_56 : decode cX8_needless 56 = .ok (.iconst 0, 1) := by decide +kernel
theorem dX8_needless_57 : decode cX8_needless 57 = .ok (.ior, 1) := by decide +kernel
theorem dX8_needless_58 : decode cX8_needless 58 = .ok (.istore_n 1, 1) := by decide +kernel
theorem dX8_needless_59 : decode cX8_needless 59 = .ok (.iinc 2 1, 3) := by decide +kernel
theorem dX8_needless_62 : decode cX8_needless 62 = .ok (.goto (-47), 3) := by decide +kernel
theorem dX8_needless_65 : decode cX8_needless 65 = .ok (.iload_n 1, 1) := by decide +kernel
theorem dX8_needless_66 : decode cX8_needless 66 = .ok (.ireturn, 1) := by decide +kernel
theorem dX8_without_0 : decode cX8_without 0 = .ok (.aload_n 0, 1) := by decide +kernel
theorem dX8_without_1 : decode cX8_without 1 = .ok (.iload_n 1, 1) := by decide +kernel
theorem dX8_without_2 : decode cX8_without 2 = .ok (.invokevirtual 154, 3) := by decide +kernel
theorem dX8_without_5 : decode cX8_without 5 = .ok (.aload_n 0, 1) := by decide +kernel
theorem dX8_without_6 : decode cX8_without 6 = .ok (.iload_n 2, 1) := by decide +kernel
theorem dX8_without_7 : decode cX8_without 7 = .ok (.ifCond .lt 12, 3) := by decide +kernel
theorem dX8_without_10 : decode cX8_without 10 = .ok (.iload_n 2, 1) := by decide +kernel
theorem dX8_without_11 : decode cX8_without 11 = .ok (.iconst 2, 1) := by decide +kernel
theorem dX8_without_12 : decode cX8_without 12 = .ok (.if_icmp .gt 7, 3) := by decide +kernel
theorem dX8_without_15 : decode cX8_without 15 = .ok (.iconst 1, 1) := by decide +kernel
theorem dX8_without_16 : decode cX8_without 16 = .ok (.goto 4, 3) := by decide +kernel
theorem dX8_without_19 : decode cX8_without 19 = .ok (.iconst 0, 1) := by decide +kernel
theorem dX8_without_20 : decode cX8_without 20 = .ok (.invokevirtual 89, 3) := by decide +kernel
theorem dX8_without_23 : decode cX8_without 23 = .ok (.aload_n 0, 1) := by decide +kernel
theorem dX8_without_24 : decode cX8_without 24 = .ok (.getfield 58, 3) := by decide +kernel
theorem dX8_without_27 : decode cX8_without 27 = .ok (.aload_n 0, 1) := by decide +kernel
theorem dX8_without_28 : decode cX8_without 28 = .ok (.getfield 54, 3) := by decide +kernel
theorem dX8_without_31 : decode cX8_without 31 = .ok (.invokevirtual 260, 3) := by decide +kernel
theorem dX8_without_34 : decode cX8_without 34 = .ok (.aload_n 0, 1) := by decide +kernel
theorem dX8_without_35 : decode cX8_without 35 = .ok (.getfield 58, 3) := by decide +kernel
theorem dX8_without_38 : decode cX8_without 38 = .ok (.iload_n 1, 1) := by decide +kernel
theorem dX8_without_39 : decode cX8_without 39 = .ok (.iconst 0, 1) := by decide +kernel
theorem dX8_without_40 : decode cX8_without 40 = .ok (.invokevirtual 264, 3) := by decide +kernel
theorem dX8_without_43 : decode cX8_without 43 = .ok (.aload_n 0, 1) := by decide +kernel
theorem dX8_without_44 : decode cX8_without 44 = .ok (.iload_n 2, 1) := by decide +kernel
theorem dX8_without_45 : decode cX8_without 45 = .ok (.invokevirtual 272, 3) := by decide +kernel
theorem dX8_without_48 : decode cX8_without 48 = .ok (.ireturn, 1) := by decide +kernel
theorem dX8_pinned_0 : decode cX8_pinned 0 = .ok (.aload_n 0, 1) := by decide +kernel
theorem dX8_pinned_1 : decode cX8_pinned 1 = .ok (.iload_n 1, 1) := by decide +kernel
theorem dX8_pinned_2 : decode cX8_pinned 2 = .ok (.invokevirtual 121, 3) := by decide +kernel
theorem dX8_pinned_5 : decode cX8_pinned 5 = .ok (.aload_n 0, 1) := by decide +kernel
theorem dX8_pinned_6 : decode cX8_pinned 6 = .ok (.iload_n 2, 1) := by decide +kernel
theorem dX8_pinned_7 : decode cX8_pinned 7 = .ok (.invokevirtual 179, 3) := by decide +kernel
theorem dX8_pinned_10 : decode cX8_pinned 10 = .ok (.aload_n 0, 1) := by decide +kernel
theorem dX8_pinned_11 : decode cX8_pinned 11 = .ok (.iload_n 3, 1) := by decide +kernel
theorem dX8_pinned_12 : decode cX8_pinned 12 = .ok (.ifCond .lt 12, 3) := by decide +kernel
theorem dX8_pinned_15 : decode cX8_pinned 15 = .ok (.iload_n 3, 1) := by decide +kernel
theorem dX8_pinned_16 : decode cX8_pinned 16 = .ok (.iconst 2, 1) := by decide +kernel
theorem dX8_pinned_17 : decode cX8_pinned 17 = .ok (.if_icmp .gt 7, 3) := by decide +kernel
theorem dX8_pinned_20 : decode cX8_pinned 20 = .ok (.iconst 1, 1) := by decide +kernel
theorem dX8_pinned_21 : decode cX8_pinned 21 = .ok (.goto 4, 3) := by decide +kernel
theorem dX8_pinned_24 : decode cX8_pinned 24 = .ok (.iconst 0, 1) := by decide +kernel
theorem dX8_pinned_25 : decode cX8_pinned 25 = .ok (.invokevirtual 89, 3) := by decide +kernel
theorem dX8_pinned_28 : decode cX8_pinned 28 = .ok (.aload_n 0, 1) := by decide +kernel
theorem dX8_pinned_29 : decode cX8_pinned 29 = .ok (.getfield 58, 3) := by decide +kernel
theorem dX8_pinned_32 : decode cX8_pinned 32 = .ok (.aload_n 0, 1) := by decide +kernel
theorem dX8_pinned_33 : decode cX8_pinned 33 = .ok (.getfield 54, 3) := by decide +kernel
theorem dX8_pinned_36 : decode cX8_pinned 36 = .ok (.invokevirtual 260, 3) := by decide +kernel
theorem dX8_pinned_39 : decode cX8_pinned 39 = .ok (.aload_n 0, 1) := by decide +kernel
theorem dX8_pinned_40 : decode cX8_pinned 40 = .ok (.getfield 58, 3) := by decide +kernel
theorem dX8_pinned_43 : decode cX8_pinned 43 = .ok (.iload_n 1, 1) := by decide +kernel
theorem dX8_pinned_44 : decode cX8_pinned 44 = .ok (.iload_n 2, 1) := by decide +kernel
theorem dX8_pinned_45 : decode cX8_pinned 45 = .ok (.invokevirtual 275, 3) := by decide +kernel
theorem dX8_pinned_48 : decode cX8_pinned 48 = .ok (.aload_n 0, 1) := by decide +kernel
theorem dX8_pinned_49 : decode cX8_pinned 49 = .ok (.getfield 58, 3) := by decide +kernel
theorem dX8_pinned_52 : decode cX8_pinned 52 = .ok (.iconst (-1), 1) := by decide +kernel
theorem dX8_pinned_53 : decode cX8_pinned 53 = .ok (.iconst 0, 1) := by decide +kernel
theorem dX8_pinned_54 : decode cX8_pinned 54 = .ok (.invokevirtual 264, 3) := by decide +kernel
theorem dX8_pinned_57 : decode cX8_pinned 57 = .ok (.aload_n 0, 1) := by decide +kernel
theorem dX8_pinned_58 : decode cX8_pinned 58 = .ok (.iload_n 3, 1) := by decide +kernel
theorem dX8_pinned_59 : decode cX8_pinned 59 = .ok (.invokevirtual 272, 3) := by decide +kernel
theorem dX8_pinned_62 : decode cX8_pinned 62 = .ok (.ireturn, 1) := by decide +kernel
theorem dX8_doomed_0 : decode cX8_doomed 0 = .ok (.aload_n 0, 1) := by decide +kernel
theorem dX8_doomed_1 : decode cX8_doomed 1 = .ok (.iload_n 1, 1) := by decide +kernel
theorem dX8_doomed_2 : decode cX8_doomed 2 = .ok (.invokevirtual 121, 3) := by decide +kernel
theorem dX8_doomed_5 : decode cX8_doomed 5 = .ok (.iconst 0, 1) := by decide +kernel
theorem dX8_doomed_6 : decode cX8_doomed 6 = .ok (.istore_n 2, 1) := by decide +kernel
theorem dX8_doomed_7 : decode cX8_doomed 7 = .ok (.aload_n 0, 1) := by decide +kernel
theorem dX8_doomed_8 : decode cX8_doomed 8 = .ok (.getfield 58, 3) := by decide +kernel
theorem dX8_doomed_11 : decode cX8_doomed 11 = .ok (.aload_n 0, 1) := by decide +kernel
theorem dX8_doomed_12 : decode cX8_doomed 12 = .ok (.getfield 54, 3) := by decide +kernel
theorem dX8_doomed_15 : decode cX8_doomed 15 = .ok (.invokevirtual 279, 3) := by decide +kernel
theorem dX8_doomed_18 : decode cX8_doomed 18 = .ok (.iconst 0, 1) := by decide +kernel
theorem dX8_doomed_19 : decode cX8_doomed 19 = .ok (.istore_n 3, 1) := by decide +kernel
theorem dX8_doomed_20 : decode cX8_doomed 20 = .ok (.iload_n 3, 1) := by decide +kernel
theorem dX8_doomed_21 : decode cX8_doomed 21 = .ok (.sipush 1000, 3) := by decide +kernel
theorem dX8_doomed_24 : decode cX8_doomed 24 = .ok (.if_icmp .ge 61, 3) := by decide +kernel
theorem dX8_doomed_27 : decode cX8_doomed 27 = .ok (.aload_n 0, 1) := by decide +kernel
theorem dX8_doomed_28 : decode cX8_doomed 28 = .ok (.getfield 54, 3) := by decide +kernel
theorem dX8_doomed_31 : decode cX8_doomed 31 = .ok (.getfield 204, 3) := by decide +kernel
theorem dX8_doomed_34 : decode cX8_doomed 34 = .ok (.iload_n 1, 1) := by decide +kernel
theorem dX8_doomed_35 : decode cX8_doomed 35 = .ok (.aaload, 1) := by decide +kernel
theorem dX8_doomed_36 : decode cX8_doomed 36 = .ok (.iload_n 3, 1) := by decide +kernel
theorem dX8_doomed_37 : decode cX8_doomed 37 = .ok (.invokestatic 225, 3) := by decide +kernel
theorem dX8_doomed_40 : decode cX8_doomed 40 = .ok (.ifCond .eq 39, 3) := by decide +kernel
theorem dX8_doomed_43 : decode cX8_doomed 43 = .ok (.aload_n 0, 1) := by decide +kernel
theorem dX8_doomed_44 : decode cX8_doomed 44 = .ok (.getfield 58, 3) := by decide +kernel
theorem dX8_doomed_47 : decode cX8_doomed 47 = .ok (.iload_n 1, 1) := by decide +kernel
theorem dX8_doomed_48 : decode cX8_doomed 48 = .ok (.iload_n 3, 1) := by decide +kernel
theorem dX8_doomed_49 : decode cX8_doomed 49 = .ok (.invokevirtual 275, 3) := by decide +kernel
theorem dX8_doomed_52 : decode cX8_doomed 52 = .ok (.aload_n 0, 1) := by decide +kernel
theorem dX8_doomed_53 : decode cX8_doomed 53 = .ok (.getfield 58, 3) := by decide +kernel
theorem dX8_doomed_56 : decode cX8_doomed 56 = .ok (.iconst (-1), 1) := by decide +kernel
theorem dX8_doomed_57 : decode cX8_doomed 57 = .ok (.iconst 1, 1) := by decide +kernel
theorem dX8_doomed_58 : decode cX8_doomed 58 = .ok (.invokevirtual 264, 3) := by decide +kernel
theorem dX8_doomed_61 : decode cX8_doomed 61 = .ok (.iload_n 2, 1) := by decide +kernel
theorem dX8_doomed_62 : decode cX8_doomed 62 = .ok (.aload_n 0, 1) := by decide +kernel
theorem dX8_doomed_63 : decode cX8_doomed 63 = .ok (.getfield 58, 3) := by decide +kernel
theorem dX8_doomed_66 : decode cX8_doomed 66 = .ok (.invokevirtual 256, 3) := by decide +kernel
theorem dX8_doomed_69 : decode cX8_doomed 69 = .ok (.ifCond .eq 7, 3) := by decide +kernel
theorem dX8_doomed_72 : decode cX8_doomed 72 = .ok (.iconst 1, 1) := by decide +kernel
theorem dX8_doomed_73 : decode cX8_doomed 73 = .ok (.goto 4, 3) := by decide +kernel
theorem dX8_doomed_76 : decode cX8_doomed 76 = .ok (.iconst 0, 1) := by decide +kernel
theorem dX8_doomed_77 : decode cX8_doomed 77 = .ok (.iadd, 1) := by decide +kernel
theorem dX8_doomed_78 : decode cX8_doomed 78 = .ok (.istore_n 2, 1) := by decide +kernel
theorem dX8_doomed_79 : decode cX8_doomed 79 = .ok (.iinc 3 1, 3) := by decide +kernel
theorem dX8_doomed_82 : decode cX8_doomed 82 = .ok (.goto (-62), 3) := by decide +kernel
theorem dX8_doomed_85 : decode cX8_doomed 85 = .ok (.iload_n 2, 1) := by decide +kernel
theorem dX8_doomed_86 : decode cX8_doomed 86 = .ok (.ireturn, 1) := by decide +kernel
theorem dX8_phase_0 : decode cX8_phase 0 = .ok (.aload_n 0, 1) := by decide +kernel
theorem dX8_phase_1 : decode cX8_phase 1 = .ok (.iload_n 1, 1) := by decide +kernel
theorem dX8_phase_2 : decode cX8_phase 2 = .ok (.invokevirtual 282, 3) := by decide +kernel
theorem dX8_phase_5 : decode cX8_phase 5 = .ok (.aload_n 0, 1) := by decide +kernel
theorem dX8_phase_6 : decode cX8_phase 6 = .ok (.iload_n 2, 1) := by decide +kernel
theorem dX8_phase_7 : decode cX8_phase 7 = .ok (.ifCond .lt 12, 3) := by decide +kernel
theorem dX8_phase_10 : decode cX8_phase 10 = .ok (.iload_n 2, 1) := by decide +kernel
theorem dX8_phase_11 : decode cX8_phase 11 = .ok (.iconst 4, 1) := by decide +kernel
theorem dX8_phase_12 : decode cX8_phase 12 = .ok (.if_icmp .gt 7, 3) := by decide +kernel
theorem dX8_phase_15 : decode cX8_phase 15 = .ok (.iconst 1, 1) := by decide +kernel
theorem dX8_phase_16 : decode cX8_phase 16 = .ok (.goto 4, 3) := by decide +kernel
theorem dX8_phase_19 : decode cX8_phase 19 = .ok (.iconst 0, 1) := by decide +kernel
theorem dX8_phase_20 : decode cX8_phase 20 = .ok (.invokevirtual 89, 3) := by decide +kernel
theorem dX8_phase_23 : decode cX8_phase 23 = .ok (.iload_n 2, 1) := by decide +kernel
theorem dX8_phase_24 : decode cX8_phase 24 = .ok (.ifCond .ne 18, 3) := by decide +kernel
theorem dX8_phase_27 : decode cX8_phase 27 = .ok (.aload_n 0, 1) := by decide +kernel
theorem dX8_phase_28 : decode cX8_phase 28 = .ok (.getfield 16, 3) := by decide +kernel
theorem dX8_phase_31 : decode cX8_phase 31 = .ok (.getfield 285, 3) := by decide +kernel
theorem dX8_phase_34 : decode cX8_phase 34 = .ok (.iload_n 1, 1) := by decide +kernel
theorem dX8_phase_35 : decode cX8_phase 35 = .ok (.aaload, 1) := by decide +kernel
theorem dX8_phase_36 : decode cX8_phase 36 = .ok (.getfield 289, 3) := by decide +kernel
theorem dX8_phase_39 : decode cX8_phase 39 = .ok (.goto 20, 3) := by decide +kernel
theorem dX8_phase_42 : decode cX8_phase 42 = .ok (.aload_n 0, 1) := by decide +kernel
theorem dX8_phase_43 : decode cX8_phase 43 = .ok (.getfield 54, 3) := by decide +kernel
theorem dX8_phase_46 : decode cX8_phase 46 = .ok (.aload_n 0, 1) := by decide +kernel
theorem dX8_phase_47 : decode cX8_phase 47 = .ok (.getfield 16, 3) := by decide +kernel
theorem dX8_phase_50 : decode cX8_phase 50 = .ok (.getfield 285, 3) := by decide +kernel
theorem dX8_phase_53 : decode cX8_phase 53 = .ok (.iload_n 1, 1) := by decide +kernel
theorem dX8_phase_54 : decode cX8_phase 54 = .ok (.aaload, 1) := by decide +kernel
theorem dX8_phase_55 : decode cX8_phase 55 = .ok (.iload_n 2, 1) := by decide +kernel
theorem dX8_phase_56 : decode cX8_phase 56 = .ok (.invokevirtual 293, 3) := by decide +kernel
theorem dX8_phase_59 : decode cX8_phase 59 = .ok (.ireturn, 1) := by decide +kernel
theorem dX8_member_0 : decode cX8_member 0 = .ok (.aload_n 0, 1) := by decide +kernel
theorem dX8_member_1 : decode cX8_member 1 = .ok (.iload_n 1, 1) := by decide +kernel
theorem dX8_member_2 : decode cX8_member 2 = .ok (.invokevirtual 282, 3) := by decide +kernel
theorem dX8_member_5 : decode cX8_member 5 = .ok (.iload_n 2, 1) := by decide +kernel
theorem dX8_member_6 : decode cX8_member 6 = .ok (.ifCond .lt 36, 3) := by decide +kernel
theorem dX8_member_9 : decode cX8_member 9 = .ok (.iload_n 2, 1) := by decide +kernel
theorem dX8_member_10 : decode cX8_member 10 = .ok (.aload_n 0, 1) := by decide +kernel
theorem dX8_member_11 : decode cX8_member 11 = .ok (.getfield 16, 3) := by decide +kernel
theorem dX8_member_14 : decode cX8_member 14 = .ok (.getfield 285, 3) := by decide +kernel
theorem dX8_member_17 : decode cX8_member 17 = .ok (.iload_n 1, 1) := by decide +kernel
theorem dX8_member_18 : decode cX8_member 18 = .ok (.aaload, 1) := by decide +kernel
theorem dX8_member_19 : decode cX8_member 19 = .ok (.getfield 289, 3) := by decide +kernel
theorem dX8_member_22 : decode cX8_member 22 = .ok (.if_icmp .ge 20, 3) := by decide +kernel
theorem dX8_member_25 : decode cX8_member 25 = .ok (.aload_n 0, 1) := by decide +kernel
theorem dX8_member_26 : decode cX8_member 26 = .ok (.getfield 16, 3) := by decide +kernel
theorem dX8_member_29 : decode cX8_member 29 = .ok (.getfield 285, 3) := by decide +kernel
theorem dX8_member_32 : decode cX8_member 32 = .ok (.iload_n 1, 1) := by decide +kernel
theorem dX8_member_33 : decode cX8_member 33 = .ok (.aaload, 1) := by decide +kernel
theorem dX8_member_34 : decode cX8_member 34 = .ok (.getfield 297, 3) := by decide +kernel
theorem dX8_member_37 : decode cX8_member 37 = .ok (.iload_n 2, 1) := by decide +kernel
theorem dX8_member_38 : decode cX8_member 38 = .ok (.iaload, 1) := by decide +kernel
theorem dX8_member_39 : decode cX8_member 39 = .ok (.goto 4, 3) := by decide +kernel
theorem dX8_member_42 : decode cX8_member 42 = .ok (.iconst (-1), 1) := by decide +kernel
theorem dX8_member_43 : decode cX8_member 43 = .ok (.ireturn, 1) := by decide +kernel
theorem dX8_trial_0 : decode cX8_trial 0 = .ok (.aload_n 0, 1) := by decide +kernel
theorem dX8_trial_1 : decode cX8_trial 1 = .ok (.iload_n 1, 1) := by decide +kernel
theorem dX8_trial_2 : decode cX8_trial 2 = .ok (.ifCond .eq 8, 3) := by decide +kernel
theorem dX8_trial_5 : decode cX8_trial 5 = .ok (.iload_n 1, 1) := by decide +kernel
theorem dX8_trial_6 : decode cX8_trial 6 = .ok (.iconst 1, 1) := by decide +kernel
theorem dX8_trial_7 : decode cX8_trial 7 = .ok (.if_icmp .ne 7, 3) := by decide +kernel
theorem dX8_trial_10 : decode cX8_trial 10 = .ok (.iconst 1, 1) := by decide +kernel
theorem dX8_trial_11 : decode cX8_trial 11 = .ok (.goto 4, 3) := by decide +kernel
theorem dX8_trial_14 : decode cX8_trial 14 = .ok (.iconst 0, 1) := by decide +kernel
theorem dX8_trial_15 : decode cX8_trial 15 = .ok (.invokevirtual 89, 3) := by decide +kernel
theorem dX8_trial_18 : decode cX8_trial 18 = .ok (.aload_n 0, 1) := by decide +kernel
theorem dX8_trial_19 : decode cX8_trial 19 = .ok (.getfield 66, 3) := by decide +kernel
theorem dX8_trial_22 : decode cX8_trial 22 = .ok (.invokevirtual 300, 3) := by decide +kernel
theorem dX8_trial_25 : decode cX8_trial 25 = .ok (.iload_n 1, 1) := by decide +kernel
theorem dX8_trial_26 : decode cX8_trial 26 = .ok (.ifCond .ne 13, 3) := by decide +kernel
theorem dX8_trial_29 : decode cX8_trial 29 = .ok (.aload_n 0, 1) := by decide +kernel
theorem dX8_trial_30 : decode cX8_trial 30 = .ok (.getfield 66, 3) := by decide +kernel
theorem dX8_trial_33 : decode cX8_trial 33 = .ok (.getfield 303, 3) := by decide +kernel
theorem dX8_trial_36 : decode cX8_trial 36 = .ok (.goto 10, 3) := by decide +kernel
theorem dX8_trial_39 : decode cX8_trial 39 = .ok (.aload_n 0, 1) := by decide +kernel
theorem dX8_trial_40 : decode cX8_trial 40 = .ok (.getfield 66, 3) := by decide +kernel
theorem dX8_trial_43 : decode cX8_trial 43 = .ok (.getfield 306, 3) := by decide +kernel
theorem dX8_trial_46 : decode cX8_trial 46 = .ok (.ireturn, 1) := by decide +kernel
theorem dX8_tried_0 : decode cX8_tried 0 = .ok (.aload_n 0, 1) := by decide +kernel
theorem dX8_tried_1 : decode cX8_tried 1 = .ok (.iload_n 1, 1) := by decide +kernel
theorem dX8_tried_2 : decode cX8_tried 2 = .ok (.invokevirtual 121, 3) := by decide +kernel
theorem dX8_tried_5 : decode cX8_tried 5 = .ok (.aload_n 0, 1) := by decide +kernel
theorem dX8_tried_6 : decode cX8_tried 6 = .ok (.getfield 66, 3) := by decide +kernel
theorem dX8_tried_9 : decode cX8_tried 9 = .ok (.invokevirtual 300, 3) := by decide +kernel
theorem dX8_tried_12 : decode cX8_tried 12 = .ok (.aload_n 0, 1) := by decide +kernel
theorem dX8_tried_13 : decode cX8_tried 13 = .ok (.getfield 66, 3) := by decide +kernel
theorem dX8_tried_16 : decode cX8_tried 16 = .ok (.getfield 303, 3) := by decide +kernel
theorem dX8_tried_19 : decode cX8_tried 19 = .ok (.iconst 1, 1) := by decide +kernel
theorem dX8_tried_20 : decode cX8_tried 20 = .ok (.if_icmp .ne 15, 3) := by decide +kernel
theorem dX8_tried_23 : decode cX8_tried 23 = .ok (.aload_n 0, 1) := by decide +kernel
theorem dX8_tried_24 : decode cX8_tried 24 = .ok (.getfield 66, 3) := by decide +kernel
theorem dX8_tried_27 : decode cX8_tried 27 = .ok (.getfield 309, 3) := by decide +kernel
theorem dX8_tried_30 : decode cX8_tried 30 = .ok (.iload_n 1, 1) := by decide +kernel
theorem dX8_tried_31 : decode cX8_tried 31 = .ok (.iaload, 1) := by decide +kernel
theorem dX8_tried_32 : decode cX8_tried 32 = .ok (.goto 4, 3) := by decide +kernel
theorem dX8_tried_35 : decode cX8_tried 35 = .ok (.iconst (-1), 1) := by decide +kernel
theorem dX8_tried_36 : decode cX8_tried 36 = .ok (.ireturn, 1) := by decide +kernel
theorem dX8_loosened_0 : decode cX8_loosened 0 = .ok (.iconst 1, 1) := by decide +kernel
theorem dX8_loosened_1 : decode cX8_loosened 1 = .ok (.istore_n 1, 1) := by decide +kernel
theorem dX8_loosened_2 : decode cX8_loosened 2 = .ok (.iload_n 1, 1) := by decide +kernel
theorem dX8_loosened_3 : decode cX8_loosened 3 = .ok (.iconst 3, 1) := by decide +kernel
theorem dX8_loosened_4 : decode cX8_loosened 4 = .ok (.if_icmp .gt 26, 3) := by decide +kernel
theorem dX8_loosened_7 : decode cX8_loosened 7 = .ok (.aload_n 0, 1) := by decide +kernel
theorem dX8_loosened_8 : decode cX8_loosened 8 = .ok (.iload_n 1, 1) := by decide +kernel
theorem dX8_loosened_9 : decode cX8_loosened 9 = .ok (.aload_n 0, 1) := by decide +kernel
theorem dX8_loosened_10 : decode cX8_loosened 10 = .ok (.getfield 16, 3) := by decide +kernel
theorem dX8_loosened_13 : decode cX8_loosened 13 = .ok (.getfield 118, 3) := by decide +kernel
theorem dX8_loosened_16 : decode cX8_loosened 16 = .ok (.invokevirtual 312, 3) := by decide +kernel
theorem dX8_loosened_19 : decode cX8_loosened 19 = .ok (.ifCond .eq 5, 3) := by decide +kernel
theorem dX8_loosened_22 : decode cX8_loosened 22 = .ok (.iload_n 1, 1) := by decide +kernel
theorem dX8_loosened_23 : decode cX8_loosened 23 = .ok (.ireturn, 1) := by decide +kernel
theorem dX8_loosened_24 : decode cX8_loosened 24 = .ok (.iinc 1 1, 3) := by decide +kernel
theorem dX8_loosened_27 : decode cX8_loosened 27 = .ok (.goto (-25), 3) := by decide +kernel
theorem dX8_loosened_30 : decode cX8_loosened 30 = .ok (.iconst (-1), 1) := by decide +kernel
theorem dX8_loosened_31 : decode cX8_loosened 31 = .ok (.ireturn, 1) := by decide +kernel
theorem dX8_shifted_0 : decode cX8_shifted 0 = .ok (.aload_n 0, 1) := by decide +kernel
theorem dX8_shifted_1 : decode cX8_shifted 1 = .ok (.getfield 58, 3) := by decide +kernel
theorem dX8_shifted_4 : decode cX8_shifted 4 = .ok (.invokevirtual 316, 3) := by decide +kernel
theorem dX8_shifted_7 : decode cX8_shifted 7 = .ok (.aload_n 0, 1) := by decide +kernel
theorem dX8_shifted_8 : decode cX8_shifted 8 = .ok (.getfield 58, 3) := by decide +kernel
theorem dX8_shifted_11 : decode cX8_shifted 11 = .ok (.iconst (-1), 1) := by decide +kernel
theorem dX8_shifted_12 : decode cX8_shifted 12 = .ok (.iconst 1, 1) := by decide +kernel
theorem dX8_shifted_13 : decode cX8_shifted 13 = .ok (.invokevirtual 264, 3) := by decide +kernel
theorem dX8_shifted_16 : decode cX8_shifted 16 = .ok (.aload_n 0, 1) := by decide +kernel
theorem dX8_shifted_17 : decode cX8_shifted 17 = .ok (.getfield 58, 3) := by decide +kernel
theorem dX8_shifted_20 : decode cX8_shifted 20 = .ok (.invokevirtual 256, 3) := by decide +kernel
theorem dX8_shifted_23 : decode cX8_shifted 23 = .ok (.ifCond .eq 7, 3) := by decide +kernel
theorem dX8_shifted_26 : decode cX8_shifted 26 = .ok (.sipush (-9999), 3) := by decide +kernel
theorem dX8_shifted_29 : decode cX8_shifted 29 = .ok (.ireturn, 1) := by decide +kernel
theorem dX8_shifted_30 : decode cX8_shifted 30 = .ok (.iconst 0, 1) := by decide +kernel
theorem dX8_shifted_31 : decode cX8_shifted 31 = .ok (.istore_n 1, 1) := by decide +kernel
theorem dX8_shifted_32 : decode cX8_shifted 32 = .ok (.iload_n 1, 1) := by decide +kernel
theorem dX8_shifted_33 : decode cX8_shifted 33 = .ok (.sipush 500, 3) := by decide +kernel
theorem dX8_shifted_36 : decode cX8_shifted 36 = .ok (.if_icmp .gt 49, 3) := by decide +kernel
theorem dX8_shifted_39 : decode cX8_shifted 39 = .ok (.aload_n 0, 1) := by decide +kernel
theorem dX8_shifted_40 : decode cX8_shifted 40 = .ok (.aload_n 0, 1) := by decide +kernel
theorem dX8_shifted_41 : decode cX8_shifted 41 = .ok (.getfield 16, 3) := by decide +kernel
theorem dX8_shifted_44 : decode cX8_shifted 44 = .ok (.getfield 115, 3) := by decide +kernel
theorem dX8_shifted_47 : decode cX8_shifted 47 = .ok (.iload_n 1, 1) := by decide +kernel
theorem dX8_shifted_48 : decode cX8_shifted 48 = .ok (.ineg, 1) := by decide +kernel
theorem dX8_shifted_49 : decode cX8_shifted 49 = .ok (.invokevirtual 312, 3) := by decide +kernel
theorem dX8_shifted_52 : decode cX8_shifted 52 = .ok (.ifCond .eq 6, 3) := by decide +kernel
theorem dX8_shifted_55 : decode cX8_shifted 55 = .ok (.iload_n 1, 1) := by decide +kernel
theorem dX8_shifted_56 : decode cX8_shifted 56 = .ok (.ineg, 1) := by decide +kernel
theorem dX8_shifted_57 : decode cX8_shifted 57 = .ok (.ireturn, 1) := by decide +kernel
theorem dX8_shifted_58 : decode cX8_shifted 58 = .ok (.iload_n 1, 1) := by decide +kernel
theorem dX8_shifted_59 : decode cX8_shifted 59 = .ok (.ifCond .le 20, 3) := by decide +kernel
theorem dX8_shifted_62 : decode cX8_shifted 62 = .ok (.aload_n 0, 1) := by decide +kernel
theorem dX8_shifted_63 : decode cX8_shifted 63 = .ok (.aload_n 0, 1) := by decide +kernel
theorem dX8_shifted_64 : decode cX8_shifted 64 = .ok (.getfield 16, 3) := by decide +kernel
theorem dX8_shifted_67 : decode cX8_shifted 67 = .ok (.getfield 115, 3) := by decide +kernel
theorem dX8_shifted_70 : decode cX8_shifted 70 = .ok (.iload_n 1, 1) := by decide +kernel
theorem dX8_shifted_71 : decode cX8_shifted 71 = .ok (.invokevirtual 312, 3) := by decide +kernel
theorem dX8_shifted_74 : decode cX8_shifted 74 = .ok (.ifCond .eq 5, 3) := by decide +kernel
theorem dX8_shifted_77 : decode cX8_shifted 77 = .ok (.iload_n 1, 1) := by decide +kernel
theorem dX8_shifted_78 : decode cX8_shifted 78 = .ok (.ireturn, 1) := by decide +kernel
theorem dX8_shifted_79 : decode cX8_shifted 79 = .ok (.iinc 1 1, 3) := by decide +kernel
theorem dX8_shifted_82 : decode cX8_shifted 82 = .ok (.goto (-50), 3) := by decide +kernel
theorem dX8_shifted_85 : decode cX8_shifted 85 = .ok (.sipush (-9999), 3) := by decide +kernel
theorem dX8_shifted_88 : decode cX8_shifted 88 = .ok (.ireturn, 1) := by decide +kernel
theorem dX8_print_0 : decode cX8_print 0 = .ok (.lconst 0, 1) := by decide +kernel
theorem dX8_print_1 : decode cX8_print 1 = .ok (.lstore_n 1, 1) := by decide +kernel
theorem dX8_print_2 : decode cX8_print 2 = .ok (.iconst 0, 1) := by decide +kernel
theorem dX8_print_3 : decode cX8_print 3 = .ok (.istore_n 3, 1) := by decide +kernel
theorem dX8_print_4 : decode cX8_print 4 = .ok (.iload_n 3, 1) := by decide +kernel
theorem dX8_print_5 : decode cX8_print 5 = .ok (.aload_n 0, 1) := by decide +kernel
theorem dX8_print_6 : decode cX8_print 6 = .ok (.getfield 16, 3) := by decide +kernel
theorem dX8_print_9 : decode cX8_print 9 = .ok (.getfield 109, 3) := by decide +kernel
theorem dX8_print_12 : decode cX8_print 12 = .ok (.if_icmp .ge 99, 3) := by decide +kernel
theorem dX8_print_15 : decode cX8_print 15 = .ok (.aload_n 0, 1) := by decide +kernel
theorem dX8_print_16 : decode cX8_print 16 = .ok (.getfield 54, 3) := by decide +kernel
theorem dX8_print_19 : decode cX8_print 19 = .ok (.getfield 204, 3) := by decide +kernel
theorem dX8_print_22 : decode cX8_print 22 = .ok (.iload_n 3, 1) := by decide +kernel
theorem dX8_print_23 : decode cX8_print 23 = .ok (.aaload, 1) := by decide +kernel
theorem dX8_print_24 : decode cX8_print 24 = .ok (.astore 4, 2) := by decide +kernel
theorem dX8_print_26 : decode cX8_print 26 = .ok (.aload 4, 2) := by decide +kernel
theorem dX8_print_28 : decode cX8_print 28 = .ok (.iconst 0, 1) := by decide +kernel
theorem dX8_print_29 : decode cX8_print 29 = .ok (.invokestatic 319, 3) := by decide +kernel
theorem dX8_print_32 : decode cX8_print 32 = .ok (.istore 5, 2) := by decide +kernel
theorem dX8_print_34 : decode cX8_print 34 = .ok (.iconst 0, 1) := by decide +kernel
theorem dX8_print_35 : decode cX8_print 35 = .ok (.istore 6, 2) := by decide +kernel
theorem dX8_print_37 : decode cX8_print 37 = .ok (.iload 6, 2) := by decide +kernel
theorem dX8_print_39 : decode cX8_print 39 = .ok (.sipush 1000, 3) := by decide +kernel
theorem dX8_print_42 : decode cX8_print 42 = .ok (.if_icmp .ge 57, 3) := by decide +kernel
theorem dX8_print_45 : decode cX8_print 45 = .ok (.iload 5, 2) := by decide +kernel
theorem dX8_print_47 : decode cX8_print 47 = .ok (.sipush 1000, 3) := by decide +kernel
theorem dX8_print_50 : decode cX8_print 50 = .ok (.if_icmp .ge 49, 3) := by decide +kernel
theorem dX8_print_53 : decode cX8_print 53 = .ok (.aload 4, 2) := by decide +kernel
theorem dX8_print_55 : decode cX8_print 55 = .ok (.iload 5, 2) := by decide +kernel
theorem dX8_print_57 : decode cX8_print 57 = .ok (.invokestatic 222, 3) := by decide +kernel
theorem dX8_print_60 : decode cX8_print 60 = .ok (.istore 7, 2) := by decide +kernel
theorem dX8_print_62 : decode cX8_print 62 = .ok (.ldc2_w 322, 3) := by decide +kernel
theorem dX8_print_65 : decode cX8_print 65 = .ok (.lload_n 1, 1) := by decide +kernel
theorem dX8_print_66 : decode cX8_print 66 = .ok (.lmul, 1) := by decide +kernel
theorem dX8_print_67 : decode cX8_print 67 = .ok (.iload 5, 2) := by decide +kernel
theorem dX8_print_69 : decode cX8_print 69 = .ok (.i2l, 1) := by decide +kernel
theorem dX8_print_70 : decode cX8_print 70 = .ok (.ladd, 1) := by decide +kernel
theorem dX8_print_71 : decode cX8_print 71 = .ok (.lstore_n 1, 1) := by decide +kernel
theorem dX8_print_72 : decode cX8_print 72 = .ok (.ldc2_w 322, 3) := by decide +kernel
theorem dX8_print_75 : decode cX8_print 75 = .ok (.lload_n 1, 1) := by decide +kernel
theorem dX8_print_76 : decode cX8_print 76 = .ok (.lmul, 1) := by decide +kernel
theorem dX8_print_77 : decode cX8_print 77 = .ok (.iload 7, 2) := by decide +kernel
theorem dX8_print_79 : decode cX8_print 79 = .ok (.i2l, 1) := by decide +kernel
theorem dX8_print_80 : decode cX8_print 80 = .ok (.ladd, 1) := by decide +kernel
theorem dX8_print_81 : decode cX8_print 81 = .ok (.lconst 1, 1) := by decide +kernel
theorem dX8_print_82 : decode cX8_print 82 = .ok (.lsub, 1) := by decide +kernel
theorem dX8_print_83 : decode cX8_print 83 = .ok (.lstore_n 1, 1) := by decide +kernel
theorem dX8_print_84 : decode cX8_print 84 = .ok (.aload 4, 2) := by decide +kernel
theorem dX8_print_86 : decode cX8_print 86 = .ok (.iload 7, 2) := by decide +kernel
theorem dX8_print_88 : decode cX8_print 88 = .ok (.invokestatic 319, 3) := by decide +kernel
theorem dX8_print_91 : decode cX8_print 91 = .ok (.istore 5, 2) := by decide +kernel
theorem dX8_print_93 : decode cX8_print 93 = .ok (.iinc 6 1, 3) := by decide +kernel
theorem dX8_print_96 : decode cX8_print 96 = .ok (.goto (-59), 3) := by decide +kernel
theorem dX8_print_99 : decode cX8_print 99 = .ok (.ldc2_w 322, 3) := by decide +kernel
theorem dX8_print_102 : decode cX8_print 102 = .ok (.lload_n 1, 1) := by decide +kernel
theorem dX8_print_103 : decode cX8_print 103 = .ok (.lmul, 1) := by decide +kernel
theorem dX8_print_104 : decode cX8_print 104 = .ok (.lstore_n 1, 1) := by decide +kernel
theorem dX8_print_105 : decode cX8_print 105 = .ok (.iinc 3 1, 3) := by decide +kernel
theorem dX8_print_108 : decode cX8_print 108 = .ok (.goto (-104), 3) := by decide +kernel
theorem dX8_print_111 : decode cX8_print 111 = .ok (.lload_n 1, 1) := by decide +kernel
theorem dX8_print_112 : decode cX8_print 112 = .ok (.lreturn, 1) := by decide +kernel
theorem dX8_status_0 : decode cX8_status 0 = .ok (.iload_n 1, 1) := by decide +kernel
theorem dX8_status_1 : decode cX8_status 1 = .ok (.ifCond .lt 21, 3) := by decide +kernel
theorem dX8_status_4 : decode cX8_status 4 = .ok (.iload_n 1, 1) := by decide +kernel
theorem dX8_status_5 : decode cX8_status 5 = .ok (.aload_n 0, 1) := by decide +kernel
theorem dX8_status_6 : decode cX8_status 6 = .ok (.getfield 37, 3) := by decide +kernel
theorem dX8_status_9 : decode cX8_status 9 = .ok (.arraylength, 1) := by decide +kernel
theorem dX8_status_10 : decode cX8_status 10 = .ok (.if_icmp .ge 12, 3) := by decide +kernel
theorem dX8_status_13 : decode cX8_status 13 = .ok (.aload_n 0, 1) := by decide +kernel
theorem dX8_status_14 : decode cX8_status 14 = .ok (.getfield 37, 3) := by decide +kernel
theorem dX8_status_17 : decode cX8_status 17 = .ok (.iload_n 1, 1) := by decide +kernel
theorem dX8_status_18 : decode cX8_status 18 = .ok (.iaload, 1) := by decide +kernel
theorem dX8_status_19 : decode cX8_status 19 = .ok (.goto 4, 3) := by decide +kernel
theorem dX8_status_22 : decode cX8_status 22 = .ok (.iconst (-1), 1) := by decide +kernel
theorem dX8_status_23 : decode cX8_status 23 = .ok (.ireturn, 1) := by decide +kernel
theorem dX8_needThere_0 : decode cX8_needThere 0 = .ok (.iload_n 1, 1) := by decide +kernel
theorem dX8_needThere_1 : decode cX8_needThere 1 = .ok (.ifCond .ne 21, 3) := by decide +kernel
theorem dX8_needThere_4 : decode cX8_needThere 4 = .ok (.aload_n 0, 1) := by decide +kernel
theorem dX8_needThere_5 : decode cX8_needThere 5 = .ok (.getfield 37, 3) := by decide +kernel
theorem dX8_needThere_8 : decode cX8_needThere 8 = .ok (.iconst 0, 1) := by decide +kernel
theorem dX8_needThere_9 : decode cX8_needThere 9 = .ok (.dup2, 1) := by decide +kernel
theorem dX8_needThere_10 : decode cX8_needThere 10 = .ok (.iaload, 1) := by decide +kernel
theorem dX8_needThere_11 : decode cX8_needThere 11 = .ok (.iconst 1, 1) := by decide +kernel
theorem dX8_needThere_12 : decode cX8_needThere 12 = .ok (.iadd, 1) := by decide +kernel
theorem dX8_needThere_13 : decode cX8_needThere 13 = .ok (.iastore, 1) := by decide +kernel
theorem dX8_needThere_14 : decode cX8_needThere 14 = .ok (.new 324, 3) := by decide +kernel
theorem dX8_needThere_17 : decode cX8_needThere 17 = .ok (.dup, 1) := by decide +kernel
theorem dX8_needThere_18 : decode cX8_needThere 18 = .ok (.invokespecial 326, 3) := by decide +kernel
theorem dX8_needThere_21 : decode cX8_needThere 21 = .ok (.athrow, 1) := by decide +kernel
theorem dX8_needThere_22 : decode cX8_needThere 22 = .ok (.return_, 1) := by decide +kernel
theorem dX8_needArgument_0 : decode cX8_needArgument 0 = .ok (.iload_n 1, 1) := by decide +kernel
theorem dX8_needArgument_1 : decode cX8_needArgument 1 = .ok (.ifCond .ne 21, 3) := by decide +kernel
theorem dX8_needArgument_4 : decode cX8_needArgument 4 = .ok (.aload_n 0, 1) := by decide +kernel
theorem dX8_needArgument_5 : decode cX8_needArgument 5 = .ok (.getfield 37, 3) := by decide +kernel
theorem dX8_needArgument_8 : decode cX8_needArgument 8 = .ok (.iconst 1, 1) := by decide +kernel
theorem dX8_needArgument_9 : decode cX8_needArgument 9 = .ok (.dup2, 1) := by decide +kernel
theorem dX8_needArgument_10 : decode cX8_needArgument 10 = .ok (.iaload, 1) := by decide +kernel
theorem dX8_needArgument_11 : decode cX8_needArgument 11 = .ok (.iconst 1, 1) := by decide +kernel
theorem dX8_needArgument_12 : decode cX8_needArgument 12 = .ok (.iadd, 1) := by decide +kernel
theorem dX8_needArgument_13 : decode cX8_needArgument 13 = .ok (.iastore, 1) := by decide +kernel
theorem dX8_needArgument_14 : decode cX8_needArgument 14 = .ok (.new 327, 3) := by decide +kernel
theorem dX8_needArgument_17 : decode cX8_needArgument 17 = .ok (.dup, 1) := by decide +kernel
theorem dX8_needArgument_18 : decode cX8_needArgument 18 = .ok (.invokespecial 329, 3) := by decide +kernel
theorem dX8_needArgument_21 : decode cX8_needArgument 21 = .ok (.athrow, 1) := by decide +kernel
theorem dX8_needArgument_22 : decode cX8_needArgument 22 = .ok (.return_, 1) := by decide +kernel
theorem dX8_needRoomForRule_0 : decode cX8_needRoomForRule 0 = .ok (.aload_n 0, 1) := by decide +kernel
theorem dX8_needRoomForRule_1 : decode cX8_needRoomForRule 1 = .ok (.getfield 16, 3) := by decide +kernel
theorem dX8_needRoomForRule_4 : decode cX8_needRoomForRule 4 = .ok (.getfield 147, 3) := by decide +kernel
theorem dX8_needRoomForRule_7 : decode cX8_needRoomForRule 7 = .ok (.bipush 24, 2) := by decide +kernel
theorem dX8_needRoomForRule_9 : decode cX8_needRoomForRule 9 = .ok (.if_icmp .lt 21, 3) := by decide +kernel
theorem dX8_needRoomForRule_12 : decode cX8_needRoomForRule 12 = .ok (.aload_n 0, 1) := by decide +kernel
theorem dX8_needRoomForRule_13 : decode cX8_needRoomForRule 13 = .ok (.getfield 37, 3) := by decide +kernel
theorem dX8_needRoomForRule_16 : decode cX8_needRoomForRule 16 = .ok (.iconst 2, 1) := by decide +kernel
theorem dX8_needRoomForRule_17 : decode cX8_needRoomForRule 17 = .ok (.dup2, 1) := by decide +kernel
theorem dX8_needRoomForRule_18 : decode cX8_needRoomForRule 18 = .ok (.iaload, 1) := by decide +kernel
theorem dX8_needRoomForRule_19 : decode cX8_needRoomForRule 19 = .ok (.iconst 1, 1) := by decide +kernel
theorem dX8_needRoomForRule_20 : decode cX8_needRoomForRule 20 = .ok (.iadd, 1) := by decide +kernel
theorem dX8_needRoomForRule_21 : decode cX8_needRoomForRule 21 = .ok (.iastore, 1) := by decide +kernel
theorem dX8_needRoomForRule_22 : decode cX8_needRoomForRule 22 = .ok (.new 330, 3) := by decide +kernel
theorem dX8_needRoomForRule_25 : decode cX8_needRoomForRule 25 = .ok (.dup, 1) := by decide +kernel
theorem dX8_needRoomForRule_26 : decode cX8_needRoomForRule 26 = .ok (.invokespecial 332, 3) := by decide +kernel
theorem dX8_needRoomForRule_29 : decode cX8_needRoomForRule 29 = .ok (.athrow, 1) := by decide +kernel
theorem dX8_needRoomForRule_30 : decode cX8_needRoomForRule 30 = .ok (.return_, 1) := by decide +kernel
theorem dX8_needSample_0 : decode cX8_needSample 0 = .ok (.aload_n 0, 1) := by decide +kernel
theorem dX8_needSample_1 : decode cX8_needSample 1 = .ok (.iload_n 1, 1) := by decide +kernel
theorem dX8_needSample_2 : decode cX8_needSample 2 = .ok (.ifCond .lt 18, 3) := by decide +kernel
theorem dX8_needSample_5 : decode cX8_needSample 5 = .ok (.iload_n 1, 1) := by decide +kernel
theorem dX8_needSample_6 : decode cX8_needSample 6 = .ok (.aload_n 0, 1) := by decide +kernel
theorem dX8_needSample_7 : decode cX8_needSample 7 = .ok (.getfield 16, 3) := by decide +kernel
theorem dX8_needSample_10 : decode cX8_needSample 10 = .ok (.getfield 109, 3) := by decide +kernel
theorem dX8_needSample_13 : decode cX8_needSample 13 = .ok (.if_icmp .ge 7, 3) := by decide +kernel
theorem dX8_needSample_16 : decode cX8_needSample 16 = .ok (.iconst 1, 1) := by decide +kernel
theorem dX8_needSample_17 : decode cX8_needSample 17 = .ok (.goto 4, 3) := by decide +kernel
theorem dX8_needSample_20 : decode cX8_needSample 20 = .ok (.iconst 0, 1) := by decide +kernel
theorem dX8_needSample_21 : decode cX8_needSample 21 = .ok (.invokevirtual 182, 3) := by decide +kernel
theorem dX8_needSample_24 : decode cX8_needSample 24 = .ok (.return_, 1) := by decide +kernel
theorem dX8_needPhase_0 : decode cX8_needPhase 0 = .ok (.aload_n 0, 1) := by decide +kernel
theorem dX8_needPhase_1 : decode cX8_needPhase 1 = .ok (.iload_n 1, 1) := by decide +kernel
theorem dX8_needPhase_2 : decode cX8_needPhase 2 = .ok (.ifCond .lt 18, 3) := by decide +kernel
theorem dX8_needPhase_5 : decode cX8_needPhase 5 = .ok (.iload_n 1, 1) := by decide +kernel
theorem dX8_needPhase_6 : decode cX8_needPhase 6 = .ok (.aload_n 0, 1) := by decide +kernel
theorem dX8_needPhase_7 : decode cX8_needPhase 7 = .ok (.getfield 16, 3) := by decide +kernel
theorem dX8_needPhase_10 : decode cX8_needPhase 10 = .ok (.getfield 163, 3) := by decide +kernel
theorem dX8_needPhase_13 : decode cX8_needPhase 13 = .ok (.if_icmp .ge 7, 3) := by decide +kernel
theorem dX8_needPhase_16 : decode cX8_needPhase 16 = .ok (.iconst 1, 1) := by decide +kernel
theorem dX8_needPhase_17 : decode cX8_needPhase 17 = .ok (.goto 4, 3) := by decide +kernel
theorem dX8_needPhase_20 : decode cX8_needPhase 20 = .ok (.iconst 0, 1) := by decide +kernel
theorem dX8_needPhase_21 : decode cX8_needPhase 21 = .ok (.invokevirtual 182, 3) := by decide +kernel
theorem dX8_needPhase_24 : decode cX8_needPhase 24 = .ok (.return_, 1) := by decide +kernel
theorem dX8_needRule_0 : decode cX8_needRule 0 = .ok (.aload_n 0, 1) := by decide +kernel
theorem dX8_needRule_1 : decode cX8_needRule 1 = .ok (.iload_n 1, 1) := by decide +kernel
theorem dX8_needRule_2 : decode cX8_needRule 2 = .ok (.ifCond .lt 18, 3) := by decide +kernel
theorem dX8_needRule_5 : decode cX8_needRule 5 = .ok (.iload_n 1, 1) := by decide +kernel
theorem dX8_needRule_6 : decode cX8_needRule 6 = .ok (.aload_n 0, 1) := by decide +kernel
theorem dX8_needRule_7 : decode cX8_needRule 7 = .ok (.getfield 16, 3) := by decide +kernel
theorem dX8_needRule_10 : decode cX8_needRule 10 = .ok (.getfield 147, 3) := by decide +kernel
theorem dX8_needRule_13 : decode cX8_needRule 13 = .ok (.if_icmp .ge 7, 3) := by decide +kernel
theorem dX8_needRule_16 : decode cX8_needRule 16 = .ok (.iconst 1, 1) := by decide +kernel
theorem dX8_needRule_17 : decode cX8_needRule 17 = .ok (.goto 4, 3) := by decide +kernel
theorem dX8_needRule_20 : decode cX8_needRule 20 = .ok (.iconst 0, 1) := by decide +kernel
theorem dX8_needRule_21 : decode cX8_needRule 21 = .ok (.invokevirtual 182, 3) := by decide +kernel
theorem dX8_needRule_24 : decode cX8_needRule 24 = .ok (.return_, 1) := by decide +kernel
theorem dX8_needYear_0 : decode cX8_needYear 0 = .ok (.aload_n 0, 1) := by decide +kernel
theorem dX8_needYear_1 : decode cX8_needYear 1 = .ok (.iload_n 1, 1) := by decide +kernel
theorem dX8_needYear_2 : decode cX8_needYear 2 = .ok (.invokestatic 150, 3) := by decide +kernel
theorem dX8_needYear_5 : decode cX8_needYear 5 = .ok (.invokevirtual 182, 3) := by decide +kernel
theorem dX8_needYear_8 : decode cX8_needYear 8 = .ok (.return_, 1) := by decide +kernel
theorem dX8_isYear_0 : decode cX8_isYear 0 = .ok (.iload_n 0, 1) := by decide +kernel
theorem dX8_isYear_1 : decode cX8_isYear 1 = .ok (.ifCond .lt 14, 3) := by decide +kernel
theorem dX8_isYear_4 : decode cX8_isYear 4 = .ok (.iload_n 0, 1) := by decide +kernel
theorem dX8_isYear_5 : decode cX8_isYear 5 = .ok (.sipush 1000, 3) := by decide +kernel
theorem dX8_isYear_8 : decode cX8_isYear 8 = .ok (.if_icmp .ge 7, 3) := by decide +kernel
theorem dX8_isYear_11 : decode cX8_isYear 11 = .ok (.iconst 1, 1) := by decide +kernel
theorem dX8_isYear_12 : decode cX8_isYear 12 = .ok (.goto 4, 3) := by decide +kernel
theorem dX8_isYear_15 : decode cX8_isYear 15 = .ok (.iconst 0, 1) := by decide +kernel
theorem dX8_isYear_16 : decode cX8_isYear 16 = .ok (.ireturn, 1) := by decide +kernel
theorem dX8_feedNumber_0 : decode cX8_feedNumber 0 = .ok (.bipush 24, 2) := by decide +kernel
theorem dX8_feedNumber_2 : decode cX8_feedNumber 2 = .ok (.istore_n 2, 1) := by decide +kernel
theorem dX8_feedNumber_3 : decode cX8_feedNumber 3 = .ok (.iload_n 2, 1) := by decide +kernel
theorem dX8_feedNumber_4 : decode cX8_feedNumber 4 = .ok (.ifCond .lt 35, 3) := by decide +kernel
theorem dX8_feedNumber_7 : decode cX8_feedNumber 7 = .ok (.aload_n 0, 1) := by decide +kernel
theorem dX8_feedNumber_8 : decode cX8_feedNumber 8 = .ok (.getfield 28, 3) := by decide +kernel
theorem dX8_feedNumber_11 : decode cX8_feedNumber 11 = .ok (.aload_n 0, 1) := by decide +kernel
theorem dX8_feedNumber_12 : decode cX8_feedNumber 12 = .ok (.getfield 31, 3) := by decide +kernel
theorem dX8_feedNumber_15 : decode cX8_feedNumber 15 = .ok (.iload_n 1, 1) := by decide +kernel
theorem dX8_feedNumber_16 : decode cX8_feedNumber 16 = .ok (.iload_n 2, 1) := by decide +kernel
theorem dX8_feedNumber_17 : decode cX8_feedNumber 17 = .ok (.iushr, 1) := by decide +kernel
theorem dX8_feedNumber_18 : decode cX8_feedNumber 18 = .ok (.sipush 255, 3) := by decide +kernel
theorem dX8_feedNumber_21 : decode cX8_feedNumber 21 = .ok (.iand, 1) := by decide +kernel
theorem dX8_feedNumber_22 : decode cX8_feedNumber 22 = .ok (.iastore, 1) := by decide +kernel
theorem dX8_feedNumber_23 : decode cX8_feedNumber 23 = .ok (.aload_n 0, 1) := by decide +kernel
theorem dX8_feedNumber_24 : decode cX8_feedNumber 24 = .ok (.dup, 1) := by decide +kernel
theorem dX8_feedNumber_25 : decode cX8_feedNumber 25 = .ok (.getfield 31, 3) := by decide +kernel
theorem dX8_feedNumber_28 : decode cX8_feedNumber 28 = .ok (.iconst 1, 1) := by decide +kernel
theorem dX8_feedNumber_29 : decode cX8_feedNumber 29 = .ok (.iadd, 1) := by decide +kernel
theorem dX8_feedNumber_30 : decode cX8_feedNumber 30 = .ok (.putfield 31, 3) := by decide +kernel
theorem dX8_feedNumber_33 : decode cX8_feedNumber 33 = .ok (.iinc 2 (-8), 3) := by decide +kernel
theorem dX8_feedNumber_36 : decode cX8_feedNumber 36 = .ok (.goto (-33), 3) := by decide +kernel
theorem dX8_feedNumber_39 : decode cX8_feedNumber 39 = .ok (.return_, 1) := by decide +kernel
theorem dX8_keepForUndo_0 : decode cX8_keepForUndo 0 = .ok (.aload_n 0, 1) := by decide +kernel
theorem dX8_keepForUndo_1 : decode cX8_keepForUndo 1 = .ok (.getfield 24, 3) := by decide +kernel
theorem dX8_keepForUndo_4 : decode cX8_keepForUndo 4 = .ok (.bipush 12, 2) := by decide +kernel
theorem dX8_keepForUndo_6 : decode cX8_keepForUndo 6 = .ok (.if_icmp .ne 56, 3) := by decide +kernel
theorem dX8_keepForUndo_9 : decode cX8_keepForUndo 9 = .ok (.aload_n 0, 1) := by decide +kernel
theorem dX8_keepForUndo_10 : decode cX8_keepForUndo 10 = .ok (.getfield 20, 3) := by decide +kernel
theorem dX8_keepForUndo_13 : decode cX8_keepForUndo 13 = .ok (.iconst 0, 1) := by decide +kernel
theorem dX8_keepForUndo_14 : decode cX8_keepForUndo 14 = .ok (.aaload, 1) := by decide +kernel
theorem dX8_keepForUndo_15 : decode cX8_keepForUndo 15 = .ok (.astore_n 1, 1) := by decide +kernel
theorem dX8_keepForUndo_16 : decode cX8_keepForUndo 16 = .ok (.iconst 1, 1) := by decide +kernel
theorem dX8_keepForUndo_17 : decode cX8_keepForUndo 17 = .ok (.istore_n 2, 1) := by decide +kernel
theorem dX8_keepForUndo_18 : decode cX8_keepForUndo 18 = .ok (.iload_n 2, 1) := by decide +kernel
theorem dX8_keepForUndo_19 : decode cX8_keepForUndo 19 = .ok (.bipush 12, 2) := by decide +kernel
theorem dX8_keepForUndo_21 : decode cX8_keepForUndo 21 = .ok (.if_icmp .ge 23, 3) := by decide +kernel
theorem dX8_keepForUndo_24 : decode cX8_keepForUndo 24 = .ok (.aload_n 0, 1) := by decide +kernel
theorem dX8_keepForUndo_25 : decode cX8_keepForUndo 25 = .ok (.getfield 20, 3) := by decide +kernel
theorem dX8_keepForUndo_28 : decode cX8_keepForUndo 28 = .ok (.iload_n 2, 1) := by decide +kernel
theorem dX8_keepForUndo_29 : decode cX8_keepForUndo 29 = .ok (.iconst 1, 1) := by decide +kernel
theorem dX8_keepForUndo_30 : decode cX8_keepForUndo 30 = .ok (.isub, 1) := by decide +kernel
theorem dX8_keepForUndo_31 : decode cX8_keepForUndo 31 = .ok (.aload_n 0, 1) := by decide +kernel
theorem dX8_keepForUndo_32 : decode cX8_keepForUndo 32 = .ok (.getfield 20, 3) := by decide +kernel
theorem dX8_keepForUndo_35 : decode cX8_keepForUndo 35 = .ok (.iload_n 2, 1) := by decide +kernel
theorem dX8_keepForUndo_36 : decode cX8_keepForUndo 36 = .ok (.aaload, 1) := by decide +kernel
theorem dX8_keepForUndo_37 : decode cX8_keepForUndo 37 = .ok (.aastore, 1) := by decide +kernel
theorem dX8_keepForUndo_38 : decode cX8_keepForUndo 38 = .ok (.iinc 2 1, 3) := by decide +kernel
theorem dX8_keepForUndo_41 : decode cX8_keepForUndo 41 = .ok (.goto (-23), 3) := by decide +kernel
theorem dX8_keepForUndo_44 : decode cX8_keepForUndo 44 = .ok (.aload_n 0, 1) := by decide +kernel
theorem dX8_keepForUndo_45 : decode cX8_keepForUndo 45 = .ok (.getfield 20, 3) := by decide +kernel
theorem dX8_keepForUndo_48 : decode cX8_keepForUndo 48 = .ok (.bipush 11, 2) := by decide +kernel
theorem dX8_keepForUndo_50 : decode cX8_keepForUndo 50 = .ok (.aload_n 1, 1) := by decide +kernel
theorem dX8_keepForUndo_51 : decode cX8_keepForUndo 51 = .ok (.aastore, 1) := by decide +kernel
theorem dX8_keepForUndo_52 : decode cX8_keepForUndo 52 = .ok (.aload_n 0, 1) := by decide +kernel
theorem dX8_keepForUndo_53 : decode cX8_keepForUndo 53 = .ok (.dup, 1) := by decide +kernel
theorem dX8_keepForUndo_54 : decode cX8_keepForUndo 54 = .ok (.getfield 24, 3) := by decide +kernel
theorem dX8_keepForUndo_57 : decode cX8_keepForUndo 57 = .ok (.iconst 1, 1) := by decide +kernel
theorem dX8_keepForUndo_58 : decode cX8_keepForUndo 58 = .ok (.isub, 1) := by decide +kernel
theorem dX8_keepForUndo_59 : decode cX8_keepForUndo 59 = .ok (.putfield 24, 3) := by decide +kernel
theorem dX8_keepForUndo_62 : decode cX8_keepForUndo 62 = .ok (.aload_n 0, 1) := by decide +kernel
theorem dX8_keepForUndo_63 : decode cX8_keepForUndo 63 = .ok (.getfield 20, 3) := by decide +kernel
theorem dX8_keepForUndo_66 : decode cX8_keepForUndo 66 = .ok (.aload_n 0, 1) := by decide +kernel
theorem dX8_keepForUndo_67 : decode cX8_keepForUndo 67 = .ok (.getfield 24, 3) := by decide +kernel
theorem dX8_keepForUndo_70 : decode cX8_keepForUndo 70 = .ok (.aaload, 1) := by decide +kernel
theorem dX8_keepForUndo_71 : decode cX8_keepForUndo 71 = .ok (.aload_n 0, 1) := by decide +kernel
theorem dX8_keepForUndo_72 : decode cX8_keepForUndo 72 = .ok (.getfield 16, 3) := by decide +kernel
theorem dX8_keepForUndo_75 : decode cX8_keepForUndo 75 = .ok (.invokevirtual 105, 3) := by decide +kernel
theorem dX8_keepForUndo_78 : decode cX8_keepForUndo 78 = .ok (.aload_n 0, 1) := by decide +kernel
theorem dX8_keepForUndo_79 : decode cX8_keepForUndo 79 = .ok (.dup, 1) := by decide +kernel
theorem dX8_keepForUndo_80 : decode cX8_keepForUndo 80 = .ok (.getfield 24, 3) := by decide +kernel
theorem dX8_keepForUndo_83 : decode cX8_keepForUndo 83 = .ok (.iconst 1, 1) := by decide +kernel
theorem dX8_keepForUndo_84 : decode cX8_keepForUndo 84 = .ok (.iadd, 1) := by decide +kernel
theorem dX8_keepForUndo_85 : decode cX8_keepForUndo 85 = .ok (.putfield 24, 3) := by decide +kernel
theorem dX8_keepForUndo_88 : decode cX8_keepForUndo 88 = .ok (.return_, 1) := by decide +kernel
theorem dX8_renew_0 : decode cX8_renew 0 = .ok (.aload_n 0, 1) := by decide +kernel
theorem dX8_renew_1 : decode cX8_renew 1 = .ok (.getfield 54, 3) := by decide +kernel
theorem dX8_renew_4 : decode cX8_renew 4 = .ok (.aload_n 0, 1) := by decide +kernel
theorem dX8_renew_5 : decode cX8_renew 5 = .ok (.getfield 16, 3) := by decide +kernel
theorem dX8_renew_8 : decode cX8_renew 8 = .ok (.getfield 115, 3) := by decide +kernel
theorem dX8_renew_11 : decode cX8_renew 11 = .ok (.aload_n 0, 1) := by decide +kernel
theorem dX8_renew_12 : decode cX8_renew 12 = .ok (.getfield 16, 3) := by decide +kernel
theorem dX8_renew_15 : decode cX8_renew 15 = .ok (.getfield 118, 3) := by decide +kernel
theorem dX8_renew_18 : decode cX8_renew 18 = .ok (.invokevirtual 333, 3) := by decide +kernel
theorem dX8_renew_21 : decode cX8_renew 21 = .ok (.aload_n 0, 1) := by decide +kernel
theorem dX8_renew_22 : decode cX8_renew 22 = .ok (.getfield 54, 3) := by decide +kernel
theorem dX8_renew_25 : decode cX8_renew 25 = .ok (.iconst (-1), 1) := by decide +kernel
theorem dX8_renew_26 : decode cX8_renew 26 = .ok (.iconst 0, 1) := by decide +kernel
theorem dX8_renew_27 : decode cX8_renew 27 = .ok (.invokevirtual 264, 3) := by decide +kernel
theorem dX8_renew_30 : decode cX8_renew 30 = .ok (.aload_n 0, 1) := by decide +kernel
theorem dX8_renew_31 : decode cX8_renew 31 = .ok (.getfield 66, 3) := by decide +kernel
theorem dX8_renew_34 : decode cX8_renew 34 = .ok (.iconst 0, 1) := by decide +kernel
theorem dX8_renew_35 : decode cX8_renew 35 = .ok (.putfield 336, 3) := by decide +kernel
theorem dX8_renew_38 : decode cX8_renew 38 = .ok (.return_, 1) := by decide +kernel
theorem dX8_misfitOf_0 : decode cX8_misfitOf 0 = .ok (.iload_n 2, 1) := by decide +kernel
theorem dX8_misfitOf_1 : decode cX8_misfitOf 1 = .ok (.iconst (-1), 1) := by decide +kernel
theorem dX8_misfitOf_2 : decode cX8_misfitOf 2 = .ok (.if_icmp .ne 7, 3) := by decide +kernel
theorem dX8_misfitOf_5 : decode cX8_misfitOf 5 = .ok (.iconst (-1), 1) := by decide +kernel
theorem dX8_misfitOf_6 : decode cX8_misfitOf 6 = .ok (.goto 27, 3) := by decide +kernel
theorem dX8_misfitOf_9 : decode cX8_misfitOf 9 = .ok (.aload_n 0, 1) := by decide +kernel
theorem dX8_misfitOf_10 : decode cX8_misfitOf 10 = .ok (.getfield 54, 3) := by decide +kernel
theorem dX8_misfitOf_13 : decode cX8_misfitOf 13 = .ok (.aload_n 0, 1) := by decide +kernel
theorem dX8_misfitOf_14 : decode cX8_misfitOf 14 = .ok (.getfield 16, 3) := by decide +kernel
theorem dX8_misfitOf_17 : decode cX8_misfitOf 17 = .ok (.getfield 124, 3) := by decide +kernel
theorem dX8_misfitOf_20 : decode cX8_misfitOf 20 = .ok (.iload_n 1, 1) := by decide +kernel
theorem dX8_misfitOf_21 : decode cX8_misfitOf 21 = .ok (.aaload, 1) := by decide +kernel
theorem dX8_misfitOf_22 : decode cX8_misfitOf 22 = .ok (.iload_n 2, 1) := by decide +kernel
theorem dX8_misfitOf_23 : decode cX8_misfitOf 23 = .ok (.aload_n 0, 1) := by decide +kernel
theorem dX8_misfitOf_24 : decode cX8_misfitOf 24 = .ok (.getfield 16, 3) := by decide +kernel
theorem dX8_misfitOf_27 : decode cX8_misfitOf 27 = .ok (.getfield 118, 3) := by decide +kernel
theorem dX8_misfitOf_30 : decode cX8_misfitOf 30 = .ok (.invokevirtual 339, 3) := by decide +kernel
theorem dX8_misfitOf_33 : decode cX8_misfitOf 33 = .ok (.ireturn, 1) := by decide +kernel
theorem dX8_ofSupposed_0 : decode cX8_ofSupposed 0 = .ok (.iload_n 1, 1) := by decide +kernel
theorem dX8_ofSupposed_1 : decode cX8_ofSupposed 1 = .ok (.ifCond .ne 13, 3) := by decide +kernel
theorem dX8_ofSupposed_4 : decode cX8_ofSupposed 4 = .ok (.aload_n 0, 1) := by decide +kernel
theorem dX8_ofSupposed_5 : decode cX8_ofSupposed 5 = .ok (.getfield 58, 3) := by decide +kernel
theorem dX8_ofSupposed_8 : decode cX8_ofSupposed 8 = .ok (.invokevirtual 169, 3) := by decide +kernel
theorem dX8_ofSupposed_11 : decode cX8_ofSupposed 11 = .ok (.goto 25, 3) := by decide +kernel
theorem dX8_ofSupposed_14 : decode cX8_ofSupposed 14 = .ok (.iload_n 1, 1) := by decide +kernel
theorem dX8_ofSupposed_15 : decode cX8_ofSupposed 15 = .ok (.iconst 1, 1) := by decide +kernel
theorem dX8_ofSupposed_16 : decode cX8_ofSupposed 16 = .ok (.if_icmp .ne 13, 3) := by decide +kernel
theorem dX8_ofSupposed_19 : decode cX8_ofSupposed 19 = .ok (.aload_n 0, 1) := by decide +kernel
theorem dX8_ofSupposed_20 : decode cX8_ofSupposed 20 = .ok (.getfield 58, 3) := by decide +kernel
theorem dX8_ofSupposed_23 : decode cX8_ofSupposed 23 = .ok (.invokevirtual 173, 3) := by decide +kernel
theorem dX8_ofSupposed_26 : decode cX8_ofSupposed 26 = .ok (.goto 10, 3) := by decide +kernel
theorem dX8_ofSupposed_29 : decode cX8_ofSupposed 29 = .ok (.aload_n 0, 1) := by decide +kernel
theorem dX8_ofSupposed_30 : decode cX8_ofSupposed 30 = .ok (.getfield 58, 3) := by decide +kernel
theorem dX8_ofSupposed_33 : decode cX8_ofSupposed 33 = .ok (.getfield 166, 3) := by decide +kernel
theorem dX8_ofSupposed_36 : decode cX8_ofSupposed 36 = .ok (.ireturn, 1) := by decide +kernel
theorem dX8_goesBy_0 : decode cX8_goesBy 0 = .ok (.aload_n 0, 1) := by decide +kernel
theorem dX8_goesBy_1 : decode cX8_goesBy 1 = .ok (.getfield 58, 3) := by decide +kernel
theorem dX8_goesBy_4 : decode cX8_goesBy 4 = .ok (.iload_n 1, 1) := by decide +kernel
theorem dX8_goesBy_5 : decode cX8_goesBy 5 = .ok (.iload_n 2, 1) := by decide +kernel
theorem dX8_goesBy_6 : decode cX8_goesBy 6 = .ok (.invokevirtual 333, 3) := by decide +kernel
theorem dX8_goesBy_9 : decode cX8_goesBy 9 = .ok (.aload_n 0, 1) := by decide +kernel
theorem dX8_goesBy_10 : decode cX8_goesBy 10 = .ok (.getfield 58, 3) := by decide +kernel
theorem dX8_goesBy_13 : decode cX8_goesBy 13 = .ok (.iconst (-1), 1) := by decide +kernel
theorem dX8_goesBy_14 : decode cX8_goesBy 14 = .ok (.iconst 1, 1) := by decide +kernel
theorem dX8_goesBy_15 : decode cX8_goesBy 15 = .ok (.invokevirtual 264, 3) := by decide +kernel
theorem dX8_goesBy_18 : decode cX8_goesBy 18 = .ok (.aload_n 0, 1) := by decide +kernel
theorem dX8_goesBy_19 : decode cX8_goesBy 19 = .ok (.getfield 58, 3) := by decide +kernel
theorem dX8_goesBy_22 : decode cX8_goesBy 22 = .ok (.invokevirtual 256, 3) := by decide +kernel
theorem dX8_goesBy_25 : decode cX8_goesBy 25 = .ok (.ifCond .ne 7, 3) := by decide +kernel
theorem dX8_goesBy_28 : decode cX8_goesBy 28 = .ok (.iconst 1, 1) := by decide +kernel
theorem dX8_goesBy_29 : decode cX8_goesBy 29 = .ok (.goto 4, 3) := by decide +kernel
theorem dX8_goesBy_32 : decode cX8_goesBy 32 = .ok (.iconst 0, 1) := by decide +kernel
theorem dX8_goesBy_33 : decode cX8_goesBy 33 = .ok (.ireturn, 1) := by decide +kernel
theorem dX9_thrown_0 : decode cX9_thrown 0 = .ok (.aload_n 0, 1) := by decide +kernel
theorem dX9_thrown_1 : decode cX9_thrown 1 = .ok (.getfield 1, 3) := by decide +kernel
theorem dX9_thrown_4 : decode cX9_thrown 4 = .ok (.ireturn, 1) := by decide +kernel
theorem dX9_isFine_0 : decode cX9_isFine 0 = .ok (.iload_n 1, 1) := by decide +kernel
theorem dX9_isFine_1 : decode cX9_isFine 1 = .ok (.ifCond .ne 25, 3) := by decide +kernel
theorem dX9_isFine_4 : decode cX9_isFine 4 = .ok (.aload_n 0, 1) := by decide +kernel
theorem dX9_isFine_5 : decode cX9_isFine 5 = .ok (.getfield 1, 3) := by decide +kernel
theorem dX9_isFine_8 : decode cX9_isFine 8 = .ok (.ifCond .ne 18, 3) := by decide +kernel
theorem dX9_isFine_11 : decode cX9_isFine 11 = .ok (.aload_n 0, 1) := by decide +kernel
theorem dX9_isFine_12 : decode cX9_isFine 12 = .ok (.iload_n 2, 1) := by decide +kernel
theorem dX9_isFine_13 : decode cX9_isFine 13 = .ok (.putfield 1, 3) := by decide +kernel
theorem dX9_isFine_16 : decode cX9_isFine 16 = .ok (.aload_n 0, 1) := by decide +kernel
theorem dX9_isFine_17 : decode cX9_isFine 17 = .ok (.getfield 7, 3) := by decide +kernel
theorem dX9_isFine_20 : decode cX9_isFine 20 = .ok (.iload_n 3, 1) := by decide +kernel
theorem dX9_isFine_21 : decode cX9_isFine 21 = .ok (.dup2, 1) := by decide +kernel
theorem dX9_isFine_22 : decode cX9_isFine 22 = .ok (.iaload, 1) := by decide +kernel
theorem dX9_isFine_23 : decode cX9_isFine 23 = .ok (.iconst 1, 1) := by decide +kernel
theorem dX9_isFine_24 : decode cX9_isFine 24 = .ok (.iadd, 1) := by decide +kernel
theorem dX9_isFine_25 : decode cX9_isFine 25 = .ok (.iastore, 1) := by decide +kernel
theorem dX9_isFine_26 : decode cX9_isFine 26 = .ok (.aload_n 0, 1) := by decide +kernel
theorem dX9_isFine_27 : decode cX9_isFine 27 = .ok (.getfield 1, 3) := by decide +kernel
theorem dX9_isFine_30 : decode cX9_isFine 30 = .ok (.ifCond .ne 7, 3) := by decide +kernel
theorem dX9_isFine_33 : decode cX9_isFine 33 = .ok (.iconst 1, 1) := by decide +kernel
theorem dX9_isFine_34 : decode cX9_isFine 34 = .ok (.goto 4, 3) := by decide +kernel
theorem dX9_isFine_37 : decode cX9_isFine 37 = .ok (.iconst 0, 1) := by decide +kernel
theorem dX9_isFine_38 : decode cX9_isFine 38 = .ok (.ireturn, 1) := by decide +kernel
theorem dX9_within_0 : decode cX9_within 0 = .ok (.iload_n 0, 1) := by decide +kernel
theorem dX9_within_1 : decode cX9_within 1 = .ok (.iload_n 1, 1) := by decide +kernel
theorem dX9_within_2 : decode cX9_within 2 = .ok (.if_icmp .lt 12, 3) := by decide +kernel
theorem dX9_within_5 : decode cX9_within 5 = .ok (.iload_n 0, 1) := by decide +kernel
theorem dX9_within_6 : decode cX9_within 6 = .ok (.iload_n 2, 1) := by decide +kernel
theorem dX9_within_7 : decode cX9_within 7 = .ok (.if_icmp .gt 7, 3) := by decide +kernel
theorem dX9_within_10 : decode cX9_within 10 = .ok (.iconst 1, 1) := by decide +kernel
theorem dX9_within_11 : decode cX9_within 11 = .ok (.goto 4, 3) := by decide +kernel
theorem dX9_within_14 : decode cX9_within 14 = .ok (.iconst 0, 1) := by decide +kernel
theorem dX9_within_15 : decode cX9_within 15 = .ok (.ireturn, 1) := by decide +kernel
theorem dX9_init_0 : decode cX9_init 0 = .ok (.aload_n 0, 1) := by decide +kernel
theorem dX9_init_1 : decode cX9_init 1 = .ok (.invokespecial 11, 3) := by decide +kernel
theorem dX9_init_4 : decode cX9_init 4 = .ok (.aload_n 0, 1) := by decide +kernel
theorem dX9_init_5 : decode cX9_init 5 = .ok (.iconst 3, 1) := by decide +kernel
theorem dX9_init_6 : decode cX9_init 6 = .ok (.newarray .int, 2) := by decide +kernel
theorem dX9_init_8 : decode cX9_init 8 = .ok (.putfield 7, 3) := by decide +kernel
theorem dX9_init_11 : decode cX9_init 11 = .ok (.aload_n 0, 1) := by decide +kernel
theorem dX9_init_12 : decode cX9_init 12 = .ok (.sipush 303, 3) := by decide +kernel
theorem dX9_init_15 : decode cX9_init 15 = .ok (.newarray .int, 2) := by decide +kernel
theorem dX9_init_17 : decode cX9_init 17 = .ok (.putfield 17, 3) := by decide +kernel
theorem dX9_init_20 : decode cX9_init 20 = .ok (.aload_n 0, 1) := by decide +kernel
theorem dX9_init_21 : decode cX9_init 21 = .ok (.sipush 303, 3) := by decide +kernel
theorem dX9_init_24 : decode cX9_init 24 = .ok (.newarray .int, 2) := by decide +kernel
theorem dX9_init_26 : decode cX9_init 26 = .ok (.putfield 20, 3) := by decide +kernel
theorem dX9_init_29 : decode cX9_init 29 = .ok (.aload_n 0, 1) := by decide +kernel
theorem dX9_init_30 : decode cX9_init 30 = .ok (.sipush 3636, 3) := by decide +kernel
theorem dX9_init_33 : decode cX9_init 33 = .ok (.newarray .int, 2) := by decide +kernel
theorem dX9_init_35 : decode cX9_init 35 = .ok (.putfield 23, 3) := by decide +kernel
theorem dX9_init_38 : decode cX9_init 38 = .ok (.aload_n 0, 1) := by decide +kernel
theorem dX9_init_39 : decode cX9_init 39 = .ok (.bipush 16, 2) := by decide +kernel
theorem dX9_init_41 : decode cX9_init 41 = .ok (.newarray .int, 2) := by decide +kernel
theorem dX9_init_43 : decode cX9_init 43 = .ok (.putfield 26, 3) := by decide +kernel
theorem dX9_init_46 : decode cX9_init 46 = .ok (.aload_n 0, 1) := by decide +kernel
theorem dX9_init_47 : decode cX9_init 47 = .ok (.bipush 16, 2) := by decide +kernel
theorem dX9_init_49 : decode cX9_init 49 = .ok (.newarray .int, 2) := by decide +kernel
theorem dX9_init_51 : decode cX9_init 51 = .ok (.putfield 29, 3) := by decide +kernel
theorem dX9_init_54 : decode cX9_init 54 = .ok (.aload_n 0, 1) := by decide +kernel
theorem dX9_init_55 : decode cX9_init 55 = .ok (.iconst 4, 1) := by decide +kernel
theorem dX9_init_56 : decode cX9_init 56 = .ok (.newarray .int, 2) := by decide +kernel
theorem dX9_init_58 : decode cX9_init 58 = .ok (.putfield 32, 3) := by decide +kernel
theorem dX9_init_61 : decode cX9_init 61 = .ok (.aload_n 0, 1) := by decide +kernel
theorem dX9_init_62 : decode cX9_init 62 = .ok (.bipush 24, 2) := by decide +kernel
theorem dX9_init_64 : decode cX9_init 64 = .ok (.newarray .int, 2) := by decide +kernel
theorem dX9_init_66 : decode cX9_init 66 = .ok (.putfield 35, 3) := by decide +kernel
theorem dX9_init_69 : decode cX9_init 69 = .ok (.aload_n 0, 1) := by decide +kernel
theorem dX9_init_70 : decode cX9_init 70 = .ok (.bipush 12, 2) := by decide +kernel
theorem dX9_init_72 : decode cX9_init 72 = .ok (.sipush 1000, 3) := by decide +kernel
theorem dX9_init_75 : decode cX9_init 75 = .ok (.multianewarray 38 2, 4) := by decide +kernel
theorem dX9_init_79 : decode cX9_init 79 = .ok (.putfield 40, 3) := by decide +kernel
theorem dX9_init_82 : decode cX9_init 82 = .ok (.aload_n 0, 1) := by decide +kernel
theorem dX9_init_83 : decode cX9_init 83 = .ok (.bipush 12, 2) := by decide +kernel
theorem dX9_init_85 : decode cX9_init 85 = .ok (.sipush 1000, 3) := by decide +kernel
theorem dX9_init_88 : decode cX9_init 88 = .ok (.multianewarray 38 2, 4) := by decide +kernel
theorem dX9_init_92 : decode cX9_init 92 = .ok (.putfield 43, 3) := by decide +kernel
theorem dX9_init_95 : decode cX9_init 95 = .ok (.aload_n 0, 1) := by decide +kernel
theorem dX9_init_96 : decode cX9_init 96 = .ok (.bipush 12, 2) := by decide +kernel
theorem dX9_init_98 : decode cX9_init 98 = .ok (.sipush 1000, 3) := by decide +kernel
theorem dX9_init_101 : decode cX9_init 101 = .ok (.multianewarray 38 2, 4) := by decide +kernel
theorem dX9_init_105 : decode cX9_init 105 = .ok (.putfield 46, 3) := by decide +kernel
theorem dX9_init_108 : decode cX9_init 108 = .ok (.aload_n 0, 1) := by decide +kernel
theorem dX9_init_109 : decode cX9_init 109 = .ok (.iconst (-1), 1) := by decide +kernel
theorem dX9_init_110 : decode cX9_init 110 = .ok (.putfield 49, 3) := by decide +kernel
theorem dX9_init_113 : decode cX9_init 113 = .ok (.aload_n 0, 1) := by decide +kernel
theorem dX9_init_114 : decode cX9_init 114 = .ok (.iconst (-1), 1) := by decide +kernel
theorem dX9_init_115 : decode cX9_init 115 = .ok (.putfield 52, 3) := by decide +kernel
theorem dX9_init_118 : decode cX9_init 118 = .ok (.aload_n 0, 1) := by decide +kernel
theorem dX9_init_119 : decode cX9_init 119 = .ok (.bipush 24, 2) := by decide +kernel
theorem dX9_init_121 : decode cX9_init 121 = .ok (.newarray .int, 2) := by decide +kernel
theorem dX9_init_123 : decode cX9_init 123 = .ok (.putfield 55, 3) := by decide +kernel
theorem dX9_init_126 : decode cX9_init 126 = .ok (.aload_n 0, 1) := by decide +kernel
theorem dX9_init_127 : decode cX9_init 127 = .ok (.sipush 1001, 3) := by decide +kernel
theorem dX9_init_130 : decode cX9_init 130 = .ok (.newarray .int, 2) := by decide +kernel
theorem dX9_init_132 : decode cX9_init 132 = .ok (.putfield 58, 3) := by decide +kernel
theorem dX9_init_135 : decode cX9_init 135 = .ok (.aload_n 0, 1) := by decide +kernel
theorem dX9_init_136 : decode cX9_init 136 = .ok (.sipush 1000, 3) := by decide +kernel
theorem dX9_init_139 : decode cX9_init 139 = .ok (.newarray .boolean, 2) := by decide +kernel
theorem dX9_init_141 : decode cX9_init 141 = .ok (.putfield 61, 3) := by decide +kernel
theorem dX9_init_144 : decode cX9_init 144 = .ok (.aload_n 0, 1) := by decide +kernel
theorem dX9_init_145 : decode cX9_init 145 = .ok (.sipush 500, 3) := by decide +kernel
theorem dX9_init_148 : decode cX9_init 148 = .ok (.newarray .byte, 2) := by decide +kernel
theorem dX9_init_150 : decode cX9_init 150 = .ok (.putfield 65, 3) := by decide +kernel
theorem dX9_init_153 : decode cX9_init 153 = .ok (.aload_n 0, 1) := by decide +kernel
theorem dX9_init_154 : decode cX9_init 154 = .ok (.sipush 500, 3) := by decide +kernel
theorem dX9_init_157 : decode cX9_init 157 = .ok (.newarray .byte, 2) := by decide +kernel
theorem dX9_init_159 : decode cX9_init 159 = .ok (.putfield 69, 3) := by decide +kernel
theorem dX9_init_162 : decode cX9_init 162 = .ok (.aload_n 0, 1) := by decide +kernel
theorem dX9_init_163 : decode cX9_init 163 = .ok (.bipush 112, 2) := by decide +kernel
theorem dX9_init_165 : decode cX9_init 165 = .ok (.newarray .byte, 2) := by decide +kernel
theorem dX9_init_167 : decode cX9_init 167 = .ok (.putfield 72, 3) := by decide +kernel
theorem dX9_init_170 : decode cX9_init 170 = .ok (.aload_n 0, 1) := by decide +kernel
theorem dX9_init_171 : decode cX9_init 171 = .ok (.bipush 16, 2) := by decide +kernel
theorem dX9_init_173 : decode cX9_init 173 = .ok (.newarray .int, 2) := by decide +kernel
theorem dX9_init_175 : decode cX9_init 175 = .ok (.putfield 75, 3) := by decide +kernel
theorem dX9_init_178 : decode cX9_init 178 = .ok (.aload_n 0, 1) := by decide +kernel
theorem dX9_init_179 : decode cX9_init 179 = .ok (.bipush 16, 2) := by decide +kernel
theorem dX9_init_181 : decode cX9_init 181 = .ok (.newarray .int, 2) := by decide +kernel
theorem dX9_init_183 : decode cX9_init 183 = .ok (.putfield 78, 3) := by decide +kernel
theorem dX9_init_186 : decode cX9_init 186 = .ok (.aload_n 0, 1) := by decide +kernel
theorem dX9_init_187 : decode cX9_init 187 = .ok (.iconst 4, 1) := by decide +kernel
theorem dX9_init_188 : decode cX9_init 188 = .ok (.newarray .int, 2) := by decide +kernel
theorem dX9_init_190 : decode cX9_init 190 = .ok (.putfield 81, 3) := by decide +kernel
theorem dX9_init_193 : decode cX9_init 193 = .ok (.aload_n 0, 1) := by decide +kernel
theorem dX9_init_194 : decode cX9_init 194 = .ok (.bipush 24, 2) := by decide +kernel
theorem dX9_init_196 : decode cX9_init 196 = .ok (.newarray .int, 2) := by decide +kernel
theorem dX9_init_198 : decode cX9_init 198 = .ok (.putfield 84, 3) := by decide +kernel
theorem dX9_init_201 : decode cX9_init 201 = .ok (.aload_n 0, 1) := by decide +kernel
theorem dX9_init_202 : decode cX9_init 202 = .ok (.bipush 8, 2) := by decide +kernel
theorem dX9_init_204 : decode cX9_init 204 = .ok (.newarray .int, 2) := by decide +kernel
theorem dX9_init_206 : decode cX9_init 206 = .ok (.putfield 87, 3) := by decide +kernel
theorem dX9_init_209 : decode cX9_init 209 = .ok (.aload_n 0, 1) := by decide +kernel
theorem dX9_init_210 : decode cX9_init 210 = .ok (.iconst (-1), 1) := by decide +kernel
theorem dX9_init_211 : decode cX9_init 211 = .ok (.putfield 90, 3) := by decide +kernel
theorem dX9_init_214 : decode cX9_init 214 = .ok (.aload_n 0, 1) := by decide +kernel
theorem dX9_init_215 : decode cX9_init 215 = .ok (.bipush 12, 2) := by decide +kernel
theorem dX9_init_217 : decode cX9_init 217 = .ok (.sipush 1000, 3) := by decide +kernel
theorem dX9_init_220 : decode cX9_init 220 = .ok (.multianewarray 38 2, 4) := by decide +kernel
theorem dX9_init_224 : decode cX9_init 224 = .ok (.putfield 93, 3) := by decide +kernel
theorem dX9_init_227 : decode cX9_init 227 = .ok (.aload_n 0, 1) := by decide +kernel
theorem dX9_init_228 : decode cX9_init 228 = .ok (.bipush 12, 2) := by decide +kernel
theorem dX9_init_230 : decode cX9_init 230 = .ok (.newarray .int, 2) := by decide +kernel
theorem dX9_init_232 : decode cX9_init 232 = .ok (.putfield 96, 3) := by decide +kernel
theorem dX9_init_235 : decode cX9_init 235 = .ok (.aload_n 0, 1) := by decide +kernel
theorem dX9_init_236 : decode cX9_init 236 = .ok (.iconst 2, 1) := by decide +kernel
theorem dX9_init_237 : decode cX9_init 237 = .ok (.putfield 99, 3) := by decide +kernel
theorem dX9_init_240 : decode cX9_init 240 = .ok (.aload_n 0, 1) := by decide +kernel
theorem dX9_init_241 : decode cX9_init 241 = .ok (.getfield 29, 3) := by decide +kernel
theorem dX9_init_244 : decode cX9_init 244 = .ok (.iconst 0, 1) := by decide +kernel
theorem dX9_init_245 : decode cX9_init 245 = .ok (.sipush 1000, 3) := by decide +kernel
theorem dX9_init_248 : decode cX9_init 248 = .ok (.iastore, 1) := by decide +kernel
theorem dX9_init_249 : decode cX9_init 249 = .ok (.aload_n 0, 1) := by decide +kernel
theorem dX9_init_250 : decode cX9_init 250 = .ok (.getfield 26, 3) := by decide +kernel
theorem dX9_init_253 : decode cX9_init 253 = .ok (.iconst 1, 1) := by decide +kernel
theorem dX9_init_254 : decode cX9_init 254 = .ok (.sipush 999, 3) := by decide +kernel
theorem dX9_init_257 : decode cX9_init 257 = .ok (.iastore, 1) := by decide +kernel
theorem dX9_init_258 : decode cX9_init 258 = .ok (.aload_n 0, 1) := by decide +kernel
theorem dX9_init_259 : decode cX9_init 259 = .ok (.getfield 29, 3) := by decide +kernel
theorem dX9_init_262 : decode cX9_init 262 = .ok (.iconst 1, 1) := by decide +kernel
theorem dX9_init_263 : decode cX9_init 263 = .ok (.iconst 1, 1) := by decide +kernel
theorem dX9_init_264 : decode cX9_init 264 = .ok (.iastore, 1) := by decide +kernel
theorem dX9_init_265 : decode cX9_init 265 = .ok (.aload_n 0, 1) := by decide +kernel
theorem dX9_init_266 : decode cX9_init 266 = .ok (.getfield 17, 3) := by decide +kernel
theorem dX9_init_269 : decode cX9_init 269 = .ok (.iconst 0, 1) := by decide +kernel
theorem dX9_init_270 : decode cX9_init 270 = .ok (.iconst 1, 1) := by decide +kernel
theorem dX9_init_271 : decode cX9_init 271 = .ok (.iastore, 1) := by decide +kernel
theorem dX9_init_272 : decode cX9_init 272 = .ok (.return_, 1) := by decide +kernel
theorem dX9_ruleAt_0 : decode cX9_ruleAt 0 = .ok (.aload_n 0, 1) := by decide +kernel
theorem dX9_ruleAt_1 : decode cX9_ruleAt 1 = .ok (.getfield 17, 3) := by decide +kernel
theorem dX9_ruleAt_4 : decode cX9_ruleAt 4 = .ok (.iconst 3, 1) := by decide +kernel
theorem dX9_ruleAt_5 : decode cX9_ruleAt 5 = .ok (.iconst 5, 1) := by decide +kernel
theorem dX9_ruleAt_6 : decode cX9_ruleAt 6 = .ok (.iload_n 1, 1) := by decide +kernel
theorem dX9_ruleAt_7 : decode cX9_ruleAt 7 = .ok (.imul, 1) := by decide +kernel
theorem dX9_ruleAt_8 : decode cX9_ruleAt 8 = .ok (.iadd, 1) := by decide +kernel
theorem dX9_ruleAt_9 : decode cX9_ruleAt 9 = .ok (.iload_n 2, 1) := by decide +kernel
theorem dX9_ruleAt_10 : decode cX9_ruleAt 10 = .ok (.iadd, 1) := by decide +kernel
theorem dX9_ruleAt_11 : decode cX9_ruleAt 11 = .ok (.iaload, 1) := by decide +kernel
theorem dX9_ruleAt_12 : decode cX9_ruleAt 12 = .ok (.ireturn, 1) := by decide +kernel
theorem dX9_sampleAt_0 : decode cX9_sampleAt 0 = .ok (.aload_n 0, 1) := by decide +kernel
theorem dX9_sampleAt_1 : decode cX9_sampleAt 1 = .ok (.getfield 17, 3) := by decide +kernel
theorem dX9_sampleAt_4 : decode cX9_sampleAt 4 = .ok (.bipush 123, 2) := by decide +kernel
theorem dX9_sampleAt_6 : decode cX9_sampleAt 6 = .ok (.bipush 15, 2) := by decide +kernel
theorem dX9_sampleAt_8 : decode cX9_sampleAt 8 = .ok (.iload_n 1, 1) := by decide +kernel
theorem dX9_sampleAt_9 : decode cX9_sampleAt 9 = .ok (.imul, 1) := by decide +kernel
theorem dX9_sampleAt_10 : decode cX9_sampleAt 10 = .ok (.iadd, 1) := by decide +kernel
theorem dX9_sampleAt_11 : decode cX9_sampleAt 11 = .ok (.iload_n 2, 1) := by decide +kernel
theorem dX9_sampleAt_12 : decode cX9_sampleAt 12 = .ok (.iadd, 1) := by decide +kernel
theorem dX9_sampleAt_13 : decode cX9_sampleAt 13 = .ok (.iaload, 1) := by decide +kernel
theorem dX9_sampleAt_14 : decode cX9_sampleAt 14 = .ok (.ireturn, 1) := by decide +kernel
theorem dX9_ageOf_0 : decode cX9_ageOf 0 = .ok (.iload_n 1, 1) := by decide +kernel
theorem dX9_ageOf_1 : decode cX9_ageOf 1 = .ok (.aload_n 0, 1) := by decide +kernel
theorem dX9_ageOf_2 : decode cX9_ageOf 2 = .ok (.getfield 26, 3) := by decide +kernel
theorem dX9_ageOf_5 : decode cX9_ageOf 5 = .ok (.iconst 0, 1) := by decide +kernel
theorem dX9_ageOf_6 : decode cX9_ageOf 6 = .ok (.iaload, 1) := by decide +kernel
theorem dX9_ageOf_7 : decode cX9_ageOf 7 = .ok (.if_icmp .lt 18, 3) := by decide +kernel
theorem dX9_ageOf_10 : decode cX9_ageOf 10 = .ok (.iload_n 1, 1) := by decide +kernel
theorem dX9_ageOf_11 : decode cX9_ageOf 11 = .ok (.aload_n 0, 1) := by decide +kernel
theorem dX9_ageOf_12 : decode cX9_ageOf 12 = .ok (.getfield 26, 3) := by decide +kernel
theorem dX9_ageOf_15 : decode cX9_ageOf 15 = .ok (.aload_n 0, 1) := by decide +kernel
theorem dX9_ageOf_16 : decode cX9_ageOf 16 = .ok (.getfield 99, 3) := by decide +kernel
theorem dX9_ageOf_19 : decode cX9_ageOf 19 = .ok (.iconst 1, 1) := by decide +kernel
theorem dX9_ageOf_20 : decode cX9_ageOf 20 = .ok (.isub, 1) := by decide +kernel
theorem dX9_ageOf_21 : decode cX9_ageOf 21 = .ok (.iaload, 1) := by decide +kernel
theorem dX9_ageOf_22 : decode cX9_ageOf 22 = .ok (.if_icmp .le 5, 3) := by decide +kernel
theorem dX9_ageOf_25 : decode cX9_ageOf 25 = .ok (.iconst (-1), 1) := by decide +kernel
theorem dX9_ageOf_26 : decode cX9_ageOf 26 = .ok (.ireturn, 1) := by decide +kernel
theorem dX9_ageOf_27 : decode cX9_ageOf 27 = .ok (.iconst 0, 1) := by decide +kernel
theorem dX9_ageOf_28 : decode cX9_ageOf 28 = .ok (.istore_n 2, 1) := by decide +kernel
theorem dX9_ageOf_29 : decode cX9_ageOf 29 = .ok (.iload_n 2, 1) := by decide +kernel
theorem dX9_ageOf_30 : decode cX9_ageOf 30 = .ok (.iconst 2, 1) := by decide +kernel
theorem dX9_ageOf_31 : decode cX9_ageOf 31 = .ok (.iadd, 1) := by decide +kernel
theorem dX9_ageOf_32 : decode cX9_ageOf 32 = .ok (.aload_n 0, 1) := by decide +kernel
theorem dX9_ageOf_33 : decode cX9_ageOf 33 = .ok (.getfield 99, 3) := by decide +kernel
theorem dX9_ageOf_36 : decode cX9_ageOf 36 = .ok (.if_icmp .ge 21, 3) := by decide +kernel
theorem dX9_ageOf_39 : decode cX9_ageOf 39 = .ok (.aload_n 0, 1) := by decide +kernel
theorem dX9_ageOf_40 : decode cX9_ageOf 40 = .ok (.getfield 26, 3) := by decide +kernel
theorem dX9_ageOf_43 : decode cX9_ageOf 43 = .ok (.iload_n 2, 1) := by decide +kernel
theorem dX9_ageOf_44 : decode cX9_ageOf 44 = .ok (.iconst 1, 1) := by decide +kernel
theorem dX9_ageOf_45 : decode cX9_ageOf 45 = .ok (.iadd, 1) := by decide +kernel
theorem dX9_ageOf_46 : decode cX9_ageOf 46 = .ok (.iaload, 1) := by decide +kernel
theorem dX9_ageOf_47 : decode cX9_ageOf 47 = .ok (.iload_n 1, 1) := by decide +kernel
theorem dX9_ageOf_48 : decode cX9_ageOf 48 = .ok (.if_icmp .ge 9, 3) := by decide +kernel
theorem dX9_ageOf_51 : decode cX9_ageOf 51 = .ok (.iinc 2 1, 3) := by decide +kernel
theorem dX9_ageOf_54 : decode cX9_ageOf 54 = .ok (.goto (-25), 3) := by decide +kernel
theorem dX9_ageOf_57 : decode cX9_ageOf 57 = .ok (.aload_n 0, 1) := by decide +kernel
theorem dX9_ageOf_58 : decode cX9_ageOf 58 = .ok (.getfield 26, 3) := by decide +kernel
theorem dX9_ageOf_61 : decode cX9_ageOf 61 = .ok (.iload_n 2, 1) := by decide +kernel
theorem dX9_ageOf_62 : decode cX9_ageOf 62 = .ok (.iconst 1, 1) := by decide +kernel
theorem dX9_ageOf_63 : decode cX9_ageOf 63 = .ok (.iadd, 1) := by decide +kernel
theorem dX9_ageOf_64 : decode cX9_ageOf 64 = .ok (.iaload, 1) := by decide +kernel
theorem dX9_ageOf_65 : decode cX9_ageOf 65 = .ok (.aload_n 0, 1) := by decide +kernel
theorem dX9_ageOf_66 : decode cX9_ageOf 66 = .ok (.getfield 26, 3) := by decide +kernel
theorem dX9_ageOf_69 : decode cX9_ageOf 69 = .ok (.iload_n 2, 1) := by decide +kernel
theorem dX9_ageOf_70 : decode cX9_ageOf 70 = .ok (.iaload, 1) := by decide +kernel
theorem dX9_ageOf_71 : decode cX9_ageOf 71 = .ok (.isub, 1) := by decide +kernel
theorem dX9_ageOf_72 : decode cX9_ageOf 72 = .ok (.istore_n 3, 1) := by decide +kernel
theorem dX9_ageOf_73 : decode cX9_ageOf 73 = .ok (.aload_n 0, 1) := by decide +kernel
theorem dX9_ageOf_74 : decode cX9_ageOf 74 = .ok (.getfield 29, 3) := by decide +kernel
theorem dX9_ageOf_77 : decode cX9_ageOf 77 = .ok (.iload_n 2, 1) := by decide +kernel
theorem dX9_ageOf_78 : decode cX9_ageOf 78 = .ok (.iaload, 1) := by decide +kernel
theorem dX9_ageOf_79 : decode cX9_ageOf 79 = .ok (.aload_n 0, 1) := by decide +kernel
theorem dX9_ageOf_80 : decode cX9_ageOf 80 = .ok (.getfield 29, 3) := by decide +kernel
theorem dX9_ageOf_83 : decode cX9_ageOf 83 = .ok (.iload_n 2, 1) := by decide +kernel
theorem dX9_ageOf_84 : decode cX9_ageOf 84 = .ok (.iconst 1, 1) := by decide +kernel
theorem dX9_ageOf_85 : decode cX9_ageOf 85 = .ok (.iadd, 1) := by decide +kernel
theorem dX9_ageOf_86 : decode cX9_ageOf 86 = .ok (.iaload, 1) := by decide +kernel
theorem dX9_ageOf_87 : decode cX9_ageOf 87 = .ok (.aload_n 0, 1) := by decide +kernel
theorem dX9_ageOf_88 : decode cX9_ageOf 88 = .ok (.getfield 29, 3) := by decide +kernel
theorem dX9_ageOf_91 : decode cX9_ageOf 91 = .ok (.iload_n 2, 1) := by decide +kernel
theorem dX9_ageOf_92 : decode cX9_ageOf 92 = .ok (.iaload, 1) := by decide +kernel
theorem dX9_ageOf_93 : decode cX9_ageOf 93 = .ok (.isub, 1) := by decide +kernel
theorem dX9_ageOf_94 : decode cX9_ageOf 94 = .ok (.iload_n 1, 1) := by decide +kernel
theorem dX9_ageOf_95 : decode cX9_ageOf 95 = .ok (.aload_n 0, 1) := by decide +kernel
theorem dX9_ageOf_96 : decode cX9_ageOf 96 = .ok (.getfield 26, 3) := by decide +kernel
theorem dX9_ageOf_99 : decode cX9_ageOf 99 = .ok (.iload_n 2, 1) := by decide +kernel
theorem dX9_ageOf_100 : decode cX9_ageOf 100 = .ok (.iaload, 1) := by decide +kernel
theorem dX9_ageOf_101 : decode cX9_ageOf 101 = .ok (.isub, 1) := by decide +kernel
theorem dX9_ageOf_102 : decode cX9_ageOf 102 = .ok (.imul, 1) := by decide +kernel
theorem dX9_ageOf_103 : decode cX9_ageOf 103 = .ok (.iload_n 3, 1) := by decide +kernel
theorem dX9_ageOf_104 : decode cX9_ageOf 104 = .ok (.idiv, 1) := by decide +kernel
theorem dX9_ageOf_105 : decode cX9_ageOf 105 = .ok (.iadd, 1) := by decide +kernel
theorem dX9_ageOf_106 : decode cX9_ageOf 106 = .ok (.ireturn, 1) := by decide +kernel
theorem dX9_misfitOf_0 : decode cX9_misfitOf 0 = .ok (.aload_n 0, 1) := by decide +kernel
theorem dX9_misfitOf_1 : decode cX9_misfitOf 1 = .ok (.iload_n 1, 1) := by decide +kernel
theorem dX9_misfitOf_2 : decode cX9_misfitOf 2 = .ok (.iconst 0, 1) := by decide +kernel
theorem dX9_misfitOf_3 : decode cX9_misfitOf 3 = .ok (.invokevirtual 102, 3) := by decide +kernel
theorem dX9_misfitOf_6 : decode cX9_misfitOf 6 = .ok (.ifCond .ne 37, 3) := by decide +kernel
theorem dX9_misfitOf_9 : decode cX9_misfitOf 9 = .ok (.aload_n 0, 1) := by decide +kernel
theorem dX9_misfitOf_10 : decode cX9_misfitOf 10 = .ok (.iload_n 2, 1) := by decide +kernel
theorem dX9_misfitOf_11 : decode cX9_misfitOf 11 = .ok (.invokevirtual 106, 3) := by decide +kernel
theorem dX9_misfitOf_14 : decode cX9_misfitOf 14 = .ok (.istore_n 3, 1) := by decide +kernel
theorem dX9_misfitOf_15 : decode cX9_misfitOf 15 = .ok (.iload_n 3, 1) := by decide +kernel
theorem dX9_misfitOf_16 : decode cX9_misfitOf 16 = .ok (.iconst (-1), 1) := by decide +kernel
theorem dX9_misfitOf_17 : decode cX9_misfitOf 17 = .ok (.if_icmp .ne 7, 3) := by decide +kernel
theorem dX9_misfitOf_20 : decode cX9_misfitOf 20 = .ok (.iconst (-1), 1) := by decide +kernel
theorem dX9_misfitOf_21 : decode cX9_misfitOf 21 = .ok (.goto 21, 3) := by decide +kernel
theorem dX9_misfitOf_24 : decode cX9_misfitOf 24 = .ok (.iload_n 3, 1) := by decide +kernel
theorem dX9_misfitOf_25 : decode cX9_misfitOf 25 = .ok (.aload_n 0, 1) := by decide +kernel
theorem dX9_misfitOf_26 : decode cX9_misfitOf 26 = .ok (.getfield 17, 3) := by decide +kernel
theorem dX9_misfitOf_29 : decode cX9_misfitOf 29 = .ok (.iconst 1, 1) := by decide +kernel
theorem dX9_misfitOf_30 : decode cX9_misfitOf 30 = .ok (.iaload, 1) := by decide +kernel
theorem dX9_misfitOf_31 : decode cX9_misfitOf 31 = .ok (.iadd, 1) := by decide +kernel
theorem dX9_misfitOf_32 : decode cX9_misfitOf 32 = .ok (.aload_n 0, 1) := by decide +kernel
theorem dX9_misfitOf_33 : decode cX9_misfitOf 33 = .ok (.iload_n 1, 1) := by decide +kernel
theorem dX9_misfitOf_34 : decode cX9_misfitOf 34 = .ok (.iconst 1, 1) := by decide +kernel
theorem dX9_misfitOf_35 : decode cX9_misfitOf 35 = .ok (.invokevirtual 102, 3) := by decide +kernel
theorem dX9_misfitOf_38 : decode cX9_misfitOf 38 = .ok (.isub, 1) := by decide +kernel
theorem dX9_misfitOf_39 : decode cX9_misfitOf 39 = .ok (.invokestatic 110, 3) := by decide +kernel
theorem dX9_misfitOf_42 : decode cX9_misfitOf 42 = .ok (.ireturn, 1) := by decide +kernel
theorem dX9_misfitOf_43 : decode cX9_misfitOf 43 = .ok (.iconst 0, 1) := by decide +kernel
theorem dX9_misfitOf_44 : decode cX9_misfitOf 44 = .ok (.istore_n 3, 1) := by decide +kernel
theorem dX9_misfitOf_45 : decode cX9_misfitOf 45 = .ok (.iconst 0, 1) := by decide +kernel
theorem dX9_misfitOf_46 : decode cX9_misfitOf 46 = .ok (.istore 4, 2) := by decide +kernel
theorem dX9_misfitOf_48 : decode cX9_misfitOf 48 = .ok (.iload 4, 2) := by decide +kernel
theorem dX9_misfitOf_50 : decode cX9_misfitOf 50 = .ok (.aload_n 0, 1) := by decide +kernel
theorem dX9_misfitOf_51 : decode cX9_misfitOf 51 = .ok (.iload_n 1, 1) := by decide +kernel
theorem dX9_misfitOf_52 : decode cX9_misfitOf 52 = .ok (.iconst 2, 1) := by decide +kernel
theorem dX9_misfitOf_53 : decode cX9_misfitOf 53 = .ok (.invokevirtual 102, 3) := by decide +kernel
theorem dX9_misfitOf_56 : decode cX9_misfitOf 56 = .ok (.if_icmp .ge 60, 3) := by decide +kernel
theorem dX9_misfitOf_59 : decode cX9_misfitOf 59 = .ok (.aload_n 0, 1) := by decide +kernel
theorem dX9_misfitOf_60 : decode cX9_misfitOf 60 = .ok (.iload_n 2, 1) := by decide +kernel
theorem dX9_misfitOf_61 : decode cX9_misfitOf 61 = .ok (.aload_n 0, 1) := by decide +kernel
theorem dX9_misfitOf_62 : decode cX9_misfitOf 62 = .ok (.iload_n 1, 1) := by decide +kernel
theorem dX9_misfitOf_63 : decode cX9_misfitOf 63 = .ok (.iconst 3, 1) := by decide +kernel
theorem dX9_misfitOf_64 : decode cX9_misfitOf 64 = .ok (.iload 4, 2) := by decide +kernel
theorem dX9_misfitOf_66 : decode cX9_misfitOf 66 = .ok (.iadd, 1) := by decide +kernel
theorem dX9_misfitOf_67 : decode cX9_misfitOf 67 = .ok (.invokevirtual 102, 3) := by decide +kernel
theorem dX9_misfitOf_70 : decode cX9_misfitOf 70 = .ok (.iadd, 1) := by decide +kernel
theorem dX9_misfitOf_71 : decode cX9_misfitOf 71 = .ok (.invokevirtual 106, 3) := by decide +kernel
theorem dX9_misfitOf_74 : decode cX9_misfitOf 74 = .ok (.istore 5, 2) := by decide +kernel
theorem dX9_misfitOf_76 : decode cX9_misfitOf 76 = .ok (.iload 5, 2) := by decide +kernel
theorem dX9_misfitOf_78 : decode cX9_misfitOf 78 = .ok (.iconst (-1), 1) := by decide +kernel
theorem dX9_misfitOf_79 : decode cX9_misfitOf 79 = .ok (.if_icmp .ne 5, 3) := by decide +kernel
theorem dX9_misfitOf_82 : decode cX9_misfitOf 82 = .ok (.iconst (-1), 1) := by decide +kernel
theorem dX9_misfitOf_83 : decode cX9_misfitOf 83 = .ok (.ireturn, 1) := by decide +kernel
theorem dX9_misfitOf_84 : decode cX9_misfitOf 84 = .ok (.iload_n 3, 1) := by decide +kernel
theorem dX9_misfitOf_85 : decode cX9_misfitOf 85 = .ok (.iload 5, 2) := by decide +kernel
theorem dX9_misfitOf_87 : decode cX9_misfitOf 87 = .ok (.aload_n 0, 1) := by decide +kernel
theorem dX9_misfitOf_88 : decode cX9_misfitOf 88 = .ok (.getfield 17, 3) := by decide +kernel
theorem dX9_misfitOf_91 : decode cX9_misfitOf 91 = .ok (.iconst 1, 1) := by decide +kernel
theorem dX9_misfitOf_92 : decode cX9_misfitOf 92 = .ok (.iaload, 1) := by decide +kernel
theorem dX9_misfitOf_93 : decode cX9_misfitOf 93 = .ok (.iadd, 1) := by decide +kernel
theorem dX9_misfitOf_94 : decode cX9_misfitOf 94 = .ok (.aload_n 0, 1) := by decide +kernel
theorem dX9_misfitOf_95 : decode cX9_misfitOf 95 = .ok (.iload_n 1, 1) := by decide +kernel
theorem dX9_misfitOf_96 : decode cX9_misfitOf 96 = .ok (.bipush 9, 2) := by decide +kernel
theorem dX9_misfitOf_98 : decode cX9_misfitOf 98 = .ok (.iload 4, 2) := by decide +kernel
theorem dX9_misfitOf_100 : decode cX9_misfitOf 100 = .ok (.iadd, 1) := by decide +kernel
theorem dX9_misfitOf_101 : decode cX9_misfitOf 101 = .ok (.invokevirtual 102, 3) := by decide +kernel
theorem dX9_misfitOf_104 : decode cX9_misfitOf 104 = .ok (.isub, 1) := by decide +kernel
theorem dX9_misfitOf_105 : decode cX9_misfitOf 105 = .ok (.invokestatic 110, 3) := by decide +kernel
theorem dX9_misfitOf_108 : decode cX9_misfitOf 108 = .ok (.iadd, 1) := by decide +kernel
theorem dX9_misfitOf_109 : decode cX9_misfitOf 109 = .ok (.istore_n 3, 1) := by decide +kernel
theorem dX9_misfitOf_110 : decode cX9_misfitOf 110 = .ok (.iinc 4 1, 3) := by decide +kernel
theorem dX9_misfitOf_113 : decode cX9_misfitOf 113 = .ok (.goto (-65), 3) := by decide +kernel
theorem dX9_misfitOf_116 : decode cX9_misfitOf 116 = .ok (.iload_n 3, 1) := by decide +kernel
theorem dX9_misfitOf_117 : decode cX9_misfitOf 117 = .ok (.ireturn, 1) := by decide +kernel
theorem dX9_leastMisfit_0 : decode cX9_leastMisfit 0 = .ok (.iconst (-1), 1) := by decide +kernel
theorem dX9_leastMisfit_1 : decode cX9_leastMisfit 1 = .ok (.istore_n 2, 1) := by decide +kernel
theorem dX9_leastMisfit_2 : decode cX9_leastMisfit 2 = .ok (.iconst 0, 1) := by decide +kernel
theorem dX9_leastMisfit_3 : decode cX9_leastMisfit 3 = .ok (.istore_n 3, 1) := by decide +kernel
theorem dX9_leastMisfit_4 : decode cX9_leastMisfit 4 = .ok (.iload_n 3, 1) := by decide +kernel
theorem dX9_leastMisfit_5 : decode cX9_leastMisfit 5 = .ok (.sipush 1000, 3) := by decide +kernel
theorem dX9_leastMisfit_8 : decode cX9_leastMisfit 8 = .ok (.if_icmp .ge 37, 3) := by decide +kernel
theorem dX9_leastMisfit_11 : decode cX9_leastMisfit 11 = .ok (.aload_n 0, 1) := by decide +kernel
theorem dX9_leastMisfit_12 : decode cX9_leastMisfit 12 = .ok (.iload_n 1, 1) := by decide +kernel
theorem dX9_leastMisfit_13 : decode cX9_leastMisfit 13 = .ok (.iload_n 3, 1) := by decide +kernel
theorem dX9_leastMisfit_14 : decode cX9_leastMisfit 14 = .ok (.invokevirtual 115, 3) := by decide +kernel
theorem dX9_leastMisfit_17 : decode cX9_leastMisfit 17 = .ok (.istore 4, 2) := by decide +kernel
theorem dX9_leastMisfit_19 : decode cX9_leastMisfit 19 = .ok (.iload 4, 2) := by decide +kernel
theorem dX9_leastMisfit_21 : decode cX9_leastMisfit 21 = .ok (.iconst (-1), 1) := by decide +kernel
theorem dX9_leastMisfit_22 : decode cX9_leastMisfit 22 = .ok (.if_icmp .eq 17, 3) := by decide +kernel
theorem dX9_leastMisfit_25 : decode cX9_leastMisfit 25 = .ok (.iload_n 2, 1) := by decide +kernel
theorem dX9_leastMisfit_26 : decode cX9_leastMisfit 26 = .ok (.iconst (-1), 1) := by decide +kernel
theorem dX9_leastMisfit_27 : decode cX9_leastMisfit 27 = .ok (.if_icmp .eq 9, 3) := by decide +kernel
theorem dX9_leastMisfit_30 : decode cX9_leastMisfit 30 = .ok (.iload 4, 2) := by decide +kernel
theorem dX9_leastMisfit_32 : decode cX9_leastMisfit 32 = .ok (.iload_n 2, 1) := by decide +kernel
theorem dX9_leastMisfit_33 : decode cX9_leastMisfit 33 = .ok (.if_icmp .ge 6, 3) := by decide +kernel
theorem dX9_leastMisfit_36 : decode cX9_leastMisfit 36 = .ok (.iload 4, 2) := by decide +kernel
theorem dX9_leastMisfit_38 : decode cX9_leastMisfit 38 = .ok (.istore_n 2, 1) := by decide +kernel
theorem dX9_leastMisfit_39 : decode cX9_leastMisfit 39 = .ok (.iinc 3 1, 3) := by decide +kernel
theorem dX9_leastMisfit_42 : decode cX9_leastMisfit 42 = .ok (.goto (-38), 3) := by decide +kernel
theorem dX9_leastMisfit_45 : decode cX9_leastMisfit 45 = .ok (.iload_n 2, 1) := by decide +kernel
theorem dX9_leastMisfit_46 : decode cX9_leastMisfit 46 = .ok (.ireturn, 1) := by decide +kernel
theorem dX9_findsFirst_0 : decode cX9_findsFirst 0 = .ok (.aload_n 0, 1) := by decide +kernel
theorem dX9_findsFirst_1 : decode cX9_findsFirst 1 = .ok (.iload_n 1, 1) := by decide +kernel
theorem dX9_findsFirst_2 : decode cX9_findsFirst 2 = .ok (.iconst 0, 1) := by decide +kernel
theorem dX9_findsFirst_3 : decode cX9_findsFirst 3 = .ok (.invokevirtual 102, 3) := by decide +kernel
theorem dX9_findsFirst_6 : decode cX9_findsFirst 6 = .ok (.ifCond .ne 19, 3) := by decide +kernel
theorem dX9_findsFirst_9 : decode cX9_findsFirst 9 = .ok (.aload_n 0, 1) := by decide +kernel
theorem dX9_findsFirst_10 : decode cX9_findsFirst 10 = .ok (.getfield 17, 3) := by decide +kernel
theorem dX9_findsFirst_13 : decode cX9_findsFirst 13 = .ok (.iconst 0, 1) := by decide +kernel
theorem dX9_findsFirst_14 : decode cX9_findsFirst 14 = .ok (.iaload, 1) := by decide +kernel
theorem dX9_findsFirst_15 : decode cX9_findsFirst 15 = .ok (.aload_n 0, 1) := by decide +kernel
theorem dX9_findsFirst_16 : decode cX9_findsFirst 16 = .ok (.iload_n 1, 1) := by decide +kernel
theorem dX9_findsFirst_17 : decode cX9_findsFirst 17 = .ok (.iconst 2, 1) := by decide +kernel
theorem dX9_findsFirst_18 : decode cX9_findsFirst 18 = .ok (.invokevirtual 102, 3) := by decide +kernel
theorem dX9_findsFirst_21 : decode cX9_findsFirst 21 = .ok (.imul, 1) := by decide +kernel
theorem dX9_findsFirst_22 : decode cX9_findsFirst 22 = .ok (.goto 22, 3) := by decide +kernel
theorem dX9_findsFirst_25 : decode cX9_findsFirst 25 = .ok (.aload_n 0, 1) := by decide +kernel
theorem dX9_findsFirst_26 : decode cX9_findsFirst 26 = .ok (.iload_n 1, 1) := by decide +kernel
theorem dX9_findsFirst_27 : decode cX9_findsFirst 27 = .ok (.invokevirtual 118, 3) := by decide +kernel
theorem dX9_findsFirst_30 : decode cX9_findsFirst 30 = .ok (.aload_n 0, 1) := by decide +kernel
theorem dX9_findsFirst_31 : decode cX9_findsFirst 31 = .ok (.getfield 17, 3) := by decide +kernel
theorem dX9_findsFirst_34 : decode cX9_findsFirst 34 = .ok (.iconst 0, 1) := by decide +kernel
theorem dX9_findsFirst_35 : decode cX9_findsFirst 35 = .ok (.iaload, 1) := by decide +kernel
theorem dX9_findsFirst_36 : decode cX9_findsFirst 36 = .ok (.aload_n 0, 1) := by decide +kernel
theorem dX9_findsFirst_37 : decode cX9_findsFirst 37 = .ok (.iload_n 1, 1) := by decide +kernel
theorem dX9_findsFirst_38 : decode cX9_findsFirst 38 = .ok (.iconst 1, 1) := by decide +kernel
theorem dX9_findsFirst_39 : decode cX9_findsFirst 39 = .ok (.invokevirtual 102, 3) := by decide +kernel
theorem dX9_findsFirst_42 : decode cX9_findsFirst 42 = .ok (.imul, 1) := by decide +kernel
theorem dX9_findsFirst_43 : decode cX9_findsFirst 43 = .ok (.iadd, 1) := by decide +kernel
theorem dX9_findsFirst_44 : decode cX9_findsFirst 44 = .ok (.istore_n 2, 1) := by decide +kernel
theorem dX9_findsFirst_45 : decode cX9_findsFirst 45 = .ok (.iconst 0, 1) := by decide +kernel
theorem dX9_findsFirst_46 : decode cX9_findsFirst 46 = .ok (.istore_n 3, 1) := by decide +kernel
theorem dX9_findsFirst_47 : decode cX9_findsFirst 47 = .ok (.iload_n 3, 1) := by decide +kernel
theorem dX9_findsFirst_48 : decode cX9_findsFirst 48 = .ok (.sipush 1000, 3) := by decide +kernel
theorem dX9_findsFirst_51 : decode cX9_findsFirst 51 = .ok (.if_icmp .ge 42, 3) := by decide +kernel
theorem dX9_findsFirst_54 : decode cX9_findsFirst 54 = .ok (.aload_n 0, 1) := by decide +kernel
theorem dX9_findsFirst_55 : decode cX9_findsFirst 55 = .ok (.iload_n 1, 1) := by decide +kernel
theorem dX9_findsFirst_56 : decode cX9_findsFirst 56 = .ok (.iload_n 3, 1) := by decide +kernel
theorem dX9_findsFirst_57 : decode cX9_findsFirst 57 = .ok (.invokevirtual 115, 3) := by decide +kernel
theorem dX9_findsFirst_60 : decode cX9_findsFirst 60 = .ok (.istore 4, 2) := by decide +kernel
theorem dX9_findsFirst_62 : decode cX9_findsFirst 62 = .ok (.aload_n 0, 1) := by decide +kernel
theorem dX9_findsFirst_63 : decode cX9_findsFirst 63 = .ok (.getfield 46, 3) := by decide +kernel
theorem dX9_findsFirst_66 : decode cX9_findsFirst 66 = .ok (.iload_n 1, 1) := by decide +kernel
theorem dX9_findsFirst_67 : decode cX9_findsFirst 67 = .ok (.aaload, 1) := by decide +kernel
theorem dX9_findsFirst_68 : decode cX9_findsFirst 68 = .ok (.iload_n 3, 1) := by decide +kernel
theorem dX9_findsFirst_69 : decode cX9_findsFirst 69 = .ok (.iload 4, 2) := by decide +kernel
theorem dX9_findsFirst_71 : decode cX9_findsFirst 71 = .ok (.iconst (-1), 1) := by decide +kernel
theorem dX9_findsFirst_72 : decode cX9_findsFirst 72 = .ok (.if_icmp .eq 13, 3) := by decide +kernel
theorem dX9_findsFirst_75 : decode cX9_findsFirst 75 = .ok (.iload 4, 2) := by decide +kernel
theorem dX9_findsFirst_77 : decode cX9_findsFirst 77 = .ok (.iload_n 2, 1) := by decide +kernel
theorem dX9_findsFirst_78 : decode cX9_findsFirst 78 = .ok (.if_icmp .gt 7, 3) := by decide +kernel
theorem dX9_findsFirst_81 : decode cX9_findsFirst 81 = .ok (.iconst 1, 1) := by decide +kernel
theorem dX9_findsFirst_82 : decode cX9_findsFirst 82 = .ok (.goto 4, 3) := by decide +kernel
theorem dX9_findsFirst_85 : decode cX9_findsFirst 85 = .ok (.iconst 0, 1) := by decide +kernel
theorem dX9_findsFirst_86 : decode cX9_findsFirst 86 = .ok (.bastore, 1) := by decide +kernel
theorem dX9_findsFirst_87 : decode cX9_findsFirst 87 = .ok (.iinc 3 1, 3) := by decide +kernel
theorem dX9_findsFirst_90 : decode cX9_findsFirst 90 = .ok (.goto (-43), 3) := by decide +kernel
theorem dX9_findsFirst_93 : decode cX9_findsFirst 93 = .ok (.return_, 1) := by decide +kernel
theorem dX9_laysFirst_0 : decode cX9_laysFirst 0 = .ok (.iconst 0, 1) := by decide +kernel
theorem dX9_laysFirst_1 : decode cX9_laysFirst 1 = .ok (.istore_n 2, 1) := by decide +kernel
theorem dX9_laysFirst_2 : decode cX9_laysFirst 2 = .ok (.iload_n 2, 1) := by decide +kernel
theorem dX9_laysFirst_3 : decode cX9_laysFirst 3 = .ok (.sipush 1000, 3) := by decide +kernel
theorem dX9_laysFirst_6 : decode cX9_laysFirst 6 = .ok (.if_icmp .ge 49, 3) := by decide +kernel
theorem dX9_laysFirst_9 : decode cX9_laysFirst 9 = .ok (.aload_n 0, 1) := by decide +kernel
theorem dX9_laysFirst_10 : decode cX9_laysFirst 10 = .ok (.getfield 40, 3) := by decide +kernel
theorem dX9_laysFirst_13 : decode cX9_laysFirst 13 = .ok (.iload_n 1, 1) := by decide +kernel
theorem dX9_laysFirst_14 : decode cX9_laysFirst 14 = .ok (.aaload, 1) := by decide +kernel
theorem dX9_laysFirst_15 : decode cX9_laysFirst 15 = .ok (.iload_n 2, 1) := by decide +kernel
theorem dX9_laysFirst_16 : decode cX9_laysFirst 16 = .ok (.iload_n 1, 1) := by decide +kernel
theorem dX9_laysFirst_17 : decode cX9_laysFirst 17 = .ok (.aload_n 0, 1) := by decide +kernel
theorem dX9_laysFirst_18 : decode cX9_laysFirst 18 = .ok (.getfield 49, 3) := by decide +kernel
theorem dX9_laysFirst_21 : decode cX9_laysFirst 21 = .ok (.if_icmp .ne 19, 3) := by decide +kernel
theorem dX9_laysFirst_24 : decode cX9_laysFirst 24 = .ok (.iload_n 2, 1) := by decide +kernel
theorem dX9_laysFirst_25 : decode cX9_laysFirst 25 = .ok (.aload_n 0, 1) := by decide +kernel
theorem dX9_laysFirst_26 : decode cX9_laysFirst 26 = .ok (.getfield 121, 3) := by decide +kernel
theorem dX9_laysFirst_29 : decode cX9_laysFirst 29 = .ok (.if_icmp .ne 7, 3) := by decide +kernel
theorem dX9_laysFirst_32 : decode cX9_laysFirst 32 = .ok (.iconst 1, 1) := by decide +kernel
theorem dX9_laysFirst_33 : decode cX9_laysFirst 33 = .ok (.goto 15, 3) := by decide +kernel
theorem dX9_laysFirst_36 : decode cX9_laysFirst 36 = .ok (.iconst 0, 1) := by decide +kernel
theorem dX9_laysFirst_37 : decode cX9_laysFirst 37 = .ok (.goto 11, 3) := by decide +kernel
theorem dX9_laysFirst_40 : decode cX9_laysFirst 40 = .ok (.aload_n 0, 1) := by decide +kernel
theorem dX9_laysFirst_41 : decode cX9_laysFirst 41 = .ok (.getfield 46, 3) := by decide +kernel
theorem dX9_laysFirst_44 : decode cX9_laysFirst 44 = .ok (.iload_n 1, 1) := by decide +kernel
theorem dX9_laysFirst_45 : decode cX9_laysFirst 45 = .ok (.aaload, 1) := by decide +kernel
theorem dX9_laysFirst_46 : decode cX9_laysFirst 46 = .ok (.iload_n 2, 1) := by decide +kernel
theorem dX9_laysFirst_47 : decode cX9_laysFirst 47 = .ok (.baload, 1) := by decide +kernel
theorem dX9_laysFirst_48 : decode cX9_laysFirst 48 = .ok (.bastore, 1) := by decide +kernel
theorem dX9_laysFirst_49 : decode cX9_laysFirst 49 = .ok (.iinc 2 1, 3) := by decide +kernel
theorem dX9_laysFirst_52 : decode cX9_laysFirst 52 = .ok (.goto (-50), 3) := by decide +kernel
theorem dX9_laysFirst_55 : decode cX9_laysFirst 55 = .ok (.return_, 1) := by decide +kernel
theorem dX9_size_0 : decode cX9_size 0 = .ok (.iconst 0, 1) := by decide +kernel
theorem dX9_size_1 : decode cX9_size 1 = .ok (.istore_n 2, 1) := by decide +kernel
theorem dX9_size_2 : decode cX9_size 2 = .ok (.iconst 0, 1) := by decide +kernel
theorem dX9_size_3 : decode cX9_size 3 = .ok (.istore_n 3, 1) := by decide +kernel
theorem dX9_size_4 : decode cX9_size 4 = .ok (.iload_n 3, 1) := by decide +kernel
theorem dX9_size_5 : decode cX9_size 5 = .ok (.sipush 1000, 3) := by decide +kernel
theorem dX9_size_8 : decode cX9_size 8 = .ok (.if_icmp .ge 23, 3) := by decide +kernel
theorem dX9_size_11 : decode cX9_size 11 = .ok (.iload_n 2, 1) := by decide +kernel
theorem dX9_size_12 : decode cX9_size 12 = .ok (.aload_n 1, 1) := by decide +kernel
theorem dX9_size_13 : decode cX9_size 13 = .ok (.iload_n 3, 1) := by decide +kernel
theorem dX9_size_14 : decode cX9_size 14 = .ok (.baload, 1) := by decide +kernel
theorem dX9_size_15 : decode cX9_size 15 = .ok (.ifCond .eq 7, 3) := by decide +kernel
theorem dX9_size_18 : decode cX9_size 18 = .ok (.iconst 1, 1) := by decide +kernel
theorem dX9_size_19 : decode cX9_size 19 = .ok (.goto 4, 3) := by decide +kernel
theorem dX9_size_22 : decode cX9_size 22 = .ok (.iconst 0, 1) := by decide +kernel
theorem dX9_size_23 : decode cX9_size 23 = .ok (.iadd, 1) := by decide +kernel
theorem dX9_size_24 : decode cX9_size 24 = .ok (.istore_n 2, 1) := by decide +kernel
theorem dX9_size_25 : decode cX9_size 25 = .ok (.iinc 3 1, 3) := by decide +kernel
theorem dX9_size_28 : decode cX9_size 28 = .ok (.goto (-24), 3) := by decide +kernel
theorem dX9_size_31 : decode cX9_size 31 = .ok (.iload_n 2, 1) := by decide +kernel
theorem dX9_size_32 : decode cX9_size 32 = .ok (.ireturn, 1) := by decide +kernel
theorem dX9_meets_0 : decode cX9_meets 0 = .ok (.aload_n 0, 1) := by decide +kernel
theorem dX9_meets_1 : decode cX9_meets 1 = .ok (.getfield 124, 3) := by decide +kernel
theorem dX9_meets_4 : decode cX9_meets 4 = .ok (.ifCond .ne 16, 3) := by decide +kernel
theorem dX9_meets_7 : decode cX9_meets 7 = .ok (.aload_n 0, 1) := by decide +kernel
theorem dX9_meets_8 : decode cX9_meets 8 = .ok (.aload_n 0, 1) := by decide +kernel
theorem dX9_meets_9 : decode cX9_meets 9 = .ok (.getfield 43, 3) := by decide +kernel
theorem dX9_meets_12 : decode cX9_meets 12 = .ok (.iload_n 2, 1) := by decide +kernel
theorem dX9_meets_13 : decode cX9_meets 13 = .ok (.aaload, 1) := by decide +kernel
theorem dX9_meets_14 : decode cX9_meets 14 = .ok (.invokevirtual 128, 3) := by decide +kernel
theorem dX9_meets_17 : decode cX9_meets 17 = .ok (.ifCond .le 4, 3) := by decide +kernel
theorem dX9_meets_20 : decode cX9_meets 20 = .ok (.return_, 1) := by decide +kernel
theorem dX9_meets_21 : decode cX9_meets 21 = .ok (.aload_n 0, 1) := by decide +kernel
theorem dX9_meets_22 : decode cX9_meets 22 = .ok (.iconst 1, 1) := by decide +kernel
theorem dX9_meets_23 : decode cX9_meets 23 = .ok (.putfield 124, 3) := by decide +kernel
theorem dX9_meets_26 : decode cX9_meets 26 = .ok (.aload_n 0, 1) := by decide +kernel
theorem dX9_meets_27 : decode cX9_meets 27 = .ok (.iload_n 1, 1) := by decide +kernel
theorem dX9_meets_28 : decode cX9_meets 28 = .ok (.putfield 132, 3) := by decide +kernel
theorem dX9_meets_31 : decode cX9_meets 31 = .ok (.aload_n 0, 1) := by decide +kernel
theorem dX9_meets_32 : decode cX9_meets 32 = .ok (.iload_n 2, 1) := by decide +kernel
theorem dX9_meets_33 : decode cX9_meets 33 = .ok (.putfield 135, 3) := by decide +kernel
theorem dX9_meets_36 : decode cX9_meets 36 = .ok (.return_, 1) := by decide +kernel
theorem dX9_takes_0 : decode cX9_takes 0 = .ok (.aload_n 0, 1) := by decide +kernel
theorem dX9_takes_1 : decode cX9_takes 1 = .ok (.getfield 43, 3) := by decide +kernel
theorem dX9_takes_4 : decode cX9_takes 4 = .ok (.iload_n 2, 1) := by decide +kernel
theorem dX9_takes_5 : decode cX9_takes 5 = .ok (.aaload, 1) := by decide +kernel
theorem dX9_takes_6 : decode cX9_takes 6 = .ok (.iload_n 3, 1) := by decide +kernel
theorem dX9_takes_7 : decode cX9_takes 7 = .ok (.iconst 0, 1) := by decide +kernel
theorem dX9_takes_8 : decode cX9_takes 8 = .ok (.bastore, 1) := by decide +kernel
theorem dX9_takes_9 : decode cX9_takes 9 = .ok (.aload_n 0, 1) := by decide +kernel
theorem dX9_takes_10 : decode cX9_takes 10 = .ok (.getfield 55, 3) := by decide +kernel
theorem dX9_takes_13 : decode cX9_takes 13 = .ok (.iload_n 1, 1) := by decide +kernel
theorem dX9_takes_14 : decode cX9_takes 14 = .ok (.dup2, 1) := by decide +kernel
theorem dX9_takes_15 : decode cX9_takes 15 = .ok (.iaload, 1) := by decide +kernel
theorem dX9_takes_16 : decode cX9_takes 16 = .ok (.iconst 1, 1) := by decide +kernel
theorem dX9_takes_17 : decode cX9_takes 17 = .ok (.iadd, 1) := by decide +kernel
theorem dX9_takes_18 : decode cX9_takes 18 = .ok (.iastore, 1) := by decide +kernel
theorem dX9_takes_19 : decode cX9_takes 19 = .ok (.aload_n 0, 1) := by decide +kernel
theorem dX9_takes_20 : decode cX9_takes 20 = .ok (.dup, 1) := by decide +kernel
theorem dX9_takes_21 : decode cX9_takes 21 = .ok (.getfield 138, 3) := by decide +kernel
theorem dX9_takes_24 : decode cX9_takes 24 = .ok (.iconst 1, 1) := by decide +kernel
theorem dX9_takes_25 : decode cX9_takes 25 = .ok (.iadd, 1) := by decide +kernel
theorem dX9_takes_26 : decode cX9_takes 26 = .ok (.putfield 138, 3) := by decide +kernel
theorem dX9_takes_29 : decode cX9_takes 29 = .ok (.return_, 1) := by decide +kernel
theorem dX9_narrows_0 : decode cX9_narrows 0 = .ok (.aload_n 0, 1) := by decide +kernel
theorem dX9_narrows_1 : decode cX9_narrows 1 = .ok (.getfield 58, 3) := by decide +kernel
theorem dX9_narrows_4 : decode cX9_narrows 4 = .ok (.iconst 0, 1) := by decide +kernel
theorem dX9_narrows_5 : decode cX9_narrows 5 = .ok (.iconst 0, 1) := by decide +kernel
theorem dX9_narrows_6 : decode cX9_narrows 6 = .ok (.iastore, 1) := by decide +kernel
theorem dX9_narrows_7 : decode cX9_narrows 7 = .ok (.iconst 0, 1) := by decide +kernel
theorem dX9_narrows_8 : decode cX9_narrows 8 = .ok (.istore 6, 2) := by decide +kernel
theorem dX9_narrows_10 : decode cX9_narrows 10 = .ok (.iload 6, 2) := by decide +kernel
theorem dX9_narrows_12 : decode cX9_narrows 12 = .ok (.sipush 1000, 3) := by decide +kernel
theorem dX9_narrows_15 : decode cX9_narrows 15 = .ok (.if_icmp .ge 43, 3) := by decide +kernel
theorem dX9_narrows_18 : decode cX9_narrows 18 = .ok (.aload_n 0, 1) := by decide +kernel
theorem dX9_narrows_19 : decode cX9_narrows 19 = .ok (.getfield 58, 3) := by decide +kernel
theorem dX9_narrows_22 : decode cX9_narrows 22 = .ok (.iload 6, 2) := by decide +kernel
theorem dX9_narrows_24 : decode cX9_narrows 24 = .ok (.iconst 1, 1) := by decide +kernel
theorem dX9_narrows_25 : decode cX9_narrows 25 = .ok (.iadd, 1) := by decide +kernel
theorem dX9_narrows_26 : decode cX9_narrows 26 = .ok (.aload_n 0, 1) := by decide +kernel
theorem dX9_narrows_27 : decode cX9_narrows 27 = .ok (.getfield 58, 3) := by decide +kernel
theorem dX9_narrows_30 : decode cX9_narrows 30 = .ok (.iload 6, 2) := by decide +kernel
theorem dX9_narrows_32 : decode cX9_narrows 32 = .ok (.iaload, 1) := by decide +kernel
theorem dX9_narrows_33 : decode cX9_narrows 33 = .ok (.aload_n 0, 1) := by decide +kernel
theorem dX9_narrows_34 : decode cX9_narrows 34 = .ok (.getfield 43, 3) := by decide +kernel
theorem dX9_narrows_37 : decode cX9_narrows 37 = .ok (.iload_n 3, 1) := by decide +kernel
theorem dX9_narrows_38 : decode cX9_narrows 38 = .ok (.aaload, 1) := by decide +kernel
theorem dX9_narrows_39 : decode cX9_narrows 39 = .ok (.iload 6, 2) := by decide +kernel
theorem dX9_narrows_41 : decode cX9_narrows 41 = .ok (.baload, 1) := by decide +kernel
theorem dX9_narrows_42 : decode cX9_narrows 42 = .ok (.ifCond .eq 7, 3) := by decide +kernel
theorem dX9_narrows_45 : decode cX9_narrows 45 = .ok (.iconst 1, 1) := by decide +kernel
theorem dX9_narrows_46 : decode cX9_narrows 46 = .ok (.goto 4, 3) := by decide +kernel
theorem dX9_narrows_49 : decode cX9_narrows 49 = .ok (.iconst 0, 1) := by decide +kernel
theorem dX9_narrows_50 : decode cX9_narrows 50 = .ok (.iadd, 1) := by decide +kernel
theorem dX9_narrows_51 : decode cX9_narrows 51 = .ok (.iastore, 1) := by decide +kernel
theorem dX9_narrows_52 : decode cX9_narrows 52 = .ok (.iinc 6 1, 3) := by decide +kernel
theorem dX9_narrows_55 : decode cX9_narrows 55 = .ok (.goto (-45), 3) := by decide +kernel
theorem dX9_narrows_58 : decode cX9_narrows 58 = .ok (.aload_n 0, 1) := by decide +kernel
theorem dX9_narrows_59 : decode cX9_narrows 59 = .ok (.getfield 138, 3) := by decide +kernel
theorem dX9_narrows_62 : decode cX9_narrows 62 = .ok (.istore 6, 2) := by decide +kernel
theorem dX9_narrows_64 : decode cX9_narrows 64 = .ok (.iconst 0, 1) := by decide +kernel
theorem dX9_narrows_65 : decode cX9_narrows 65 = .ok (.istore 7, 2) := by decide +kernel
theorem dX9_narrows_67 : decode cX9_narrows 67 = .ok (.iload 7, 2) := by decide +kernel
theorem dX9_narrows_69 : decode cX9_narrows 69 = .ok (.sipush 1000, 3) := by decide +kernel
theorem dX9_narrows_72 : decode cX9_narrows 72 = .ok (.if_icmp .ge 91, 3) := by decide +kernel
theorem dX9_narrows_75 : decode cX9_narrows 75 = .ok (.iconst 0, 1) := by decide +kernel
theorem dX9_narrows_76 : decode cX9_narrows 76 = .ok (.iload 7, 2) := by decide +kernel
theorem dX9_narrows_78 : decode cX9_narrows 78 = .ok (.iload 4, 2) := by decide +kernel
theorem dX9_narrows_80 : decode cX9_narrows 80 = .ok (.iadd, 1) := by decide +kernel
theorem dX9_narrows_81 : decode cX9_narrows 81 = .ok (.invokestatic 141, 3) := by decide +kernel
theorem dX9_narrows_84 : decode cX9_narrows 84 = .ok (.istore 8, 2) := by decide +kernel
theorem dX9_narrows_86 : decode cX9_narrows 86 = .ok (.sipush 999, 3) := by decide +kernel
theorem dX9_narrows_89 : decode cX9_narrows 89 = .ok (.iload 7, 2) := by decide +kernel
theorem dX9_narrows_91 : decode cX9_narrows 91 = .ok (.iload 5, 2) := by decide +kernel
theorem dX9_narrows_93 : decode cX9_narrows 93 = .ok (.iadd, 1) := by decide +kernel
theorem dX9_narrows_94 : decode cX9_narrows 94 = .ok (.invokestatic 144, 3) := by decide +kernel
theorem dX9_narrows_97 : decode cX9_narrows 97 = .ok (.istore 9, 2) := by decide +kernel
theorem dX9_narrows_99 : decode cX9_narrows 99 = .ok (.iload 8, 2) := by decide +kernel
theorem dX9_narrows_101 : decode cX9_narrows 101 = .ok (.iload 9, 2) := by decide +kernel
theorem dX9_narrows_103 : decode cX9_narrows 103 = .ok (.if_icmp .gt 26, 3) := by decide +kernel
theorem dX9_narrows_106 : decode cX9_narrows 106 = .ok (.aload_n 0, 1) := by decide +kernel
theorem dX9_narrows_107 : decode cX9_narrows 107 = .ok (.getfield 58, 3) := by decide +kernel
theorem dX9_narrows_110 : decode cX9_narrows 110 = .ok (.iload 9, 2) := by decide +kernel
theorem dX9_narrows_112 : decode cX9_narrows 112 = .ok (.iconst 1, 1) := by decide +kernel
theorem dX9_narrows_113 : decode cX9_narrows 113 = .ok (.iadd, 1) := by decide +kernel
theorem dX9_narrows_114 : decode cX9_narrows 114 = .ok (.iaload, 1) := by decide +kernel
theorem dX9_narrows_115 : decode cX9_narrows 115 = .ok (.aload_n 0, 1) := by decide +kernel
theorem dX9_narrows_116 : decode cX9_narrows 116 = .ok (.getfield 58, 3) := by decide +kernel
theorem dX9_narrows_119 : decode cX9_narrows 119 = .ok (.iload 8, 2) := by decide +kernel
theorem dX9_narrows_121 : decode cX9_narrows 121 = .ok (.iaload, 1) := by decide +kernel
theorem dX9_narrows_122 : decode cX9_narrows 122 = .ok (.if_icmp .le 7, 3) := by decide +kernel
theorem dX9_narrows_125 : decode cX9_narrows 125 = .ok (.iconst 1, 1) := by decide +kernel
theorem dX9_narrows_126 : decode cX9_narrows 126 = .ok (.goto 4, 3) := by decide +kernel
theorem dX9_narrows_129 : decode cX9_narrows 129 = .ok (.iconst 0, 1) := by decide +kernel
theorem dX9_narrows_130 : decode cX9_narrows 130 = .ok (.istore 10, 2) := by decide +kernel
theorem dX9_narrows_132 : decode cX9_narrows 132 = .ok (.aload_n 0, 1) := by decide +kernel
theorem dX9_narrows_133 : decode cX9_narrows 133 = .ok (.getfield 43, 3) := by decide +kernel
theorem dX9_narrows_136 : decode cX9_narrows 136 = .ok (.iload_n 2, 1) := by decide +kernel
theorem dX9_narrows_137 : decode cX9_narrows 137 = .ok (.aaload, 1) := by decide +kernel
theorem dX9_narrows_138 : decode cX9_narrows 138 = .ok (.iload 7, 2) := by decide +kernel
theorem dX9_narrows_140 : decode cX9_narrows 140 = .ok (.baload, 1) := by decide +kernel
theorem dX9_narrows_141 : decode cX9_narrows 141 = .ok (.ifCond .eq 16, 3) := by decide +kernel
theorem dX9_narrows_144 : decode cX9_narrows 144 = .ok (.iload 10, 2) := by decide +kernel
theorem dX9_narrows_146 : decode cX9_narrows 146 = .ok (.ifCond .ne 11, 3) := by decide +kernel
theorem dX9_narrows_149 : decode cX9_narrows 149 = .ok (.aload_n 0, 1) := by decide +kernel
theorem dX9_narrows_150 : decode cX9_narrows 150 = .ok (.iload_n 1, 1) := by decide +kernel
theorem dX9_narrows_151 : decode cX9_narrows 151 = .ok (.iload_n 2, 1) := by decide +kernel
theorem dX9_narrows_152 : decode cX9_narrows 152 = .ok (.iload 7, 2) := by decide +kernel
theorem dX9_narrows_154 : decode cX9_narrows 154 = .ok (.invokevirtual 147, 3) := by decide +kernel
theorem dX9_narrows_157 : decode cX9_narrows 157 = .ok (.iinc 7 1, 3) := by decide +kernel
theorem dX9_narrows_160 : decode cX9_narrows 160 = .ok (.goto (-93), 3) := by decide +kernel
theorem dX9_narrows_163 : decode cX9_narrows 163 = .ok (.aload_n 0, 1) := by decide +kernel
theorem dX9_narrows_164 : decode cX9_narrows 164 = .ok (.getfield 138, 3) := by decide +kernel
theorem dX9_narrows_167 : decode cX9_narrows 167 = .ok (.iload 6, 2) := by decide +kernel
theorem dX9_narrows_169 : decode cX9_narrows 169 = .ok (.if_icmp .le 9, 3) := by decide +kernel
theorem dX9_narrows_172 : decode cX9_narrows 172 = .ok (.aload_n 0, 1) := by decide +kernel
theorem dX9_narrows_173 : decode cX9_narrows 173 = .ok (.iload_n 1, 1) := by decide +kernel
theorem dX9_narrows_174 : decode cX9_narrows 174 = .ok (.iload_n 2, 1) := by decide +kernel
theorem dX9_narrows_175 : decode cX9_narrows 175 = .ok (.invokevirtual 151, 3) := by decide +kernel
theorem dX9_narrows_178 : decode cX9_narrows 178 = .ok (.return_, 1) := by decide +kernel
theorem dX9_both_0 : decode cX9_both 0 = .ok (.aload_n 0, 1) := by decide +kernel
theorem dX9_both_1 : decode cX9_both 1 = .ok (.iload_n 1, 1) := by decide +kernel
theorem dX9_both_2 : decode cX9_both 2 = .ok (.iload_n 3, 1) := by decide +kernel
theorem dX9_both_3 : decode cX9_both 3 = .ok (.iload_n 2, 1) := by decide +kernel
theorem dX9_both_4 : decode cX9_both 4 = .ok (.iload 5, 2) := by decide +kernel
theorem dX9_both_6 : decode cX9_both 6 = .ok (.ineg, 1) := by decide +kernel
theorem dX9_both_7 : decode cX9_both 7 = .ok (.iload 4, 2) := by decide +kernel
theorem dX9_both_9 : decode cX9_both 9 = .ok (.ineg, 1) := by decide +kernel
theorem dX9_both_10 : decode cX9_both 10 = .ok (.invokevirtual 155, 3) := by decide +kernel
theorem dX9_both_13 : decode cX9_both 13 = .ok (.aload_n 0, 1) := by decide +kernel
theorem dX9_both_14 : decode cX9_both 14 = .ok (.iload_n 1, 1) := by decide +kernel
theorem dX9_both_15 : decode cX9_both 15 = .ok (.iload_n 2, 1) := by decide +kernel
theorem dX9_both_16 : decode cX9_both 16 = .ok (.iload_n 3, 1) := by decide +kernel
theorem dX9_both_17 : decode cX9_both 17 = .ok (.iload 4, 2) := by decide +kernel
theorem dX9_both_19 : decode cX9_both 19 = .ok (.iload 5, 2) := by decide +kernel
theorem dX9_both_21 : decode cX9_both 21 = .ok (.invokevirtual 155, 3) := by decide +kernel
theorem dX9_both_24 : decode cX9_both 24 = .ok (.return_, 1) := by decide +kernel
theorem dX9_bounded_0 : decode cX9_bounded 0 = .ok (.aload_n 0, 1) := by decide +kernel
theorem dX9_bounded_1 : decode cX9_bounded 1 = .ok (.getfield 138, 3) := by decide +kernel
theorem dX9_bounded_4 : decode cX9_bounded 4 = .ok (.istore 5, 2) := by decide +kernel
theorem dX9_bounded_6 : decode cX9_bounded 6 = .ok (.iconst 0, 1) := by decide +kernel
theorem dX9_bounded_7 : decode cX9_bounded 7 = .ok (.istore 6, 2) := by decide +kernel
theorem dX9_bounded_9 : decode cX9_bounded 9 = .ok (.iload 6, 2) := by decide +kernel
theorem dX9_bounded_11 : decode cX9_bounded 11 = .ok (.sipush 1000, 3) := by decide +kernel
theorem dX9_bounded_14 : decode cX9_bounded 14 = .ok (.if_icmp .ge 42, 3) := by decide +kernel
theorem dX9_bounded_17 : decode cX9_bounded 17 = .ok (.aload_n 0, 1) := by decide +kernel
theorem dX9_bounded_18 : decode cX9_bounded 18 = .ok (.getfield 43, 3) := by decide +kernel
theorem dX9_bounded_21 : decode cX9_bounded 21 = .ok (.iload_n 2, 1) := by decide +kernel
theorem dX9_bounded_22 : decode cX9_bounded 22 = .ok (.aaload, 1) := by decide +kernel
theorem dX9_bounded_23 : decode cX9_bounded 23 = .ok (.iload 6, 2) := by decide +kernel
theorem dX9_bounded_25 : decode cX9_bounded 25 = .ok (.baload, 1) := by decide +kernel
theorem dX9_bounded_26 : decode cX9_bounded 26 = .ok (.ifCond .eq 24, 3) := by decide +kernel
theorem dX9_bounded_29 : decode cX9_bounded 29 = .ok (.iload 6, 2) := by decide +kernel
theorem dX9_bounded_31 : decode cX9_bounded 31 = .ok (.iload_n 3, 1) := by decide +kernel
theorem dX9_bounded_32 : decode cX9_bounded 32 = .ok (.if_icmp .lt 10, 3) := by decide +kernel
theorem dX9_bounded_35 : decode cX9_bounded 35 = .ok (.iload 6, 2) := by decide +kernel
theorem dX9_bounded_37 : decode cX9_bounded 37 = .ok (.iload 4, 2) := by decide +kernel
theorem dX9_bounded_39 : decode cX9_bounded 39 = .ok (.if_icmp .le 11, 3) := by decide +kernel
theorem dX9_bounded_42 : decode cX9_bounded 42 = .ok (.aload_n 0, 1) := by decide +kernel
theorem dX9_bounded_43 : decode cX9_bounded 43 = .ok (.iload_n 1, 1) := by decide +kernel
theorem dX9_bounded_44 : decode cX9_bounded 44 = .ok (.iload_n 2, 1) := by decide +kernel
theorem dX9_bounded_45 : decode cX9_bounded 45 = .ok (.iload 6, 2) := by decide +kernel
theorem dX9_bounded_47 : decode cX9_bounded 47 = .ok (.invokevirtual 147, 3) := by decide +kernel
theorem dX9_bounded_50 : decode cX9_bounded 50 = .ok (.iinc 6 1, 3) := by decide +kernel
theorem dX9_bounded_53 : decode cX9_bounded 53 = .ok (.goto (-44), 3) := by decide +kernel
theorem dX9_bounded_56 : decode cX9_bounded 56 = .ok (.aload_n 0, 1) := by decide +kernel
theorem dX9_bounded_57 : decode cX9_bounded 57 = .ok (.getfield 138, 3) := by decide +kernel
theorem dX9_bounded_60 : decode cX9_bounded 60 = .ok (.iload 5, 2) := by decide +kernel
theorem dX9_bounded_62 : decode cX9_bounded 62 = .ok (.if_icmp .le 9, 3) := by decide +kernel
theorem dX9_bounded_65 : decode cX9_bounded 65 = .ok (.aload_n 0, 1) := by decide +kernel
theorem dX9_bounded_66 : decode cX9_bounded 66 = .ok (.iload_n 1, 1) := by decide +kernel
theorem dX9_bounded_67 : decode cX9_bounded 67 = .ok (.iload_n 2, 1) := by decide +kernel
theorem dX9_bounded_68 : decode cX9_bounded 68 = .ok (.invokevirtual 151, 3) := by decide +kernel
theorem dX9_bounded_71 : decode cX9_bounded 71 = .ok (.return_, 1) := by decide +kernel
theorem dX9_orders_0 : decode cX9_orders 0 = .ok (.iload_n 2, 1) := by decide +kernel
theorem dX9_orders_1 : decode cX9_orders 1 = .ok (.iload_n 3, 1) := by decide +kernel
theorem dX9_orders_2 : decode cX9_orders 2 = .ok (.if_icmp .eq 18, 3) := by decide +kernel
theorem dX9_orders_5 : decode cX9_orders 5 = .ok (.aload_n 0, 1) := by decide +kernel
theorem dX9_orders_6 : decode cX9_orders 6 = .ok (.iload_n 1, 1) := by decide +kernel
theorem dX9_orders_7 : decode cX9_orders 7 = .ok (.iload_n 2, 1) := by decide +kernel
theorem dX9_orders_8 : decode cX9_orders 8 = .ok (.iload_n 3, 1) := by decide +kernel
theorem dX9_orders_9 : decode cX9_orders 9 = .ok (.iload 4, 2) := by decide +kernel
theorem dX9_orders_11 : decode cX9_orders 11 = .ok (.sipush 999, 3) := by decide +kernel
theorem dX9_orders_14 : decode cX9_orders 14 = .ok (.invokevirtual 159, 3) := by decide +kernel
theorem dX9_orders_17 : decode cX9_orders 17 = .ok (.goto 18, 3) := by decide +kernel
theorem dX9_orders_20 : decode cX9_orders 20 = .ok (.iload 4, 2) := by decide +kernel
theorem dX9_orders_22 : decode cX9_orders 22 = .ok (.ifCond .le 13, 3) := by decide +kernel
theorem dX9_orders_25 : decode cX9_orders 25 = .ok (.aload_n 0, 1) := by decide +kernel
theorem dX9_orders_26 : decode cX9_orders 26 = .ok (.iload_n 1, 1) := by decide +kernel
theorem dX9_orders_27 : decode cX9_orders 27 = .ok (.iload_n 2, 1) := by decide +kernel
theorem dX9_orders_28 : decode cX9_orders 28 = .ok (.sipush 1000, 3) := by decide +kernel
theorem dX9_orders_31 : decode cX9_orders 31 = .ok (.iconst (-1), 1) := by decide +kernel
theorem dX9_orders_32 : decode cX9_orders 32 = .ok (.invokevirtual 162, 3) := by decide +kernel
theorem dX9_orders_35 : decode cX9_orders 35 = .ok (.return_, 1) := by decide +kernel
theorem dX9_memberOf_0 : decode cX9_memberOf 0 = .ok (.aload_n 0, 1) := by decide +kernel
theorem dX9_memberOf_1 : decode cX9_memberOf 1 = .ok (.getfield 35, 3) := by decide +kernel
theorem dX9_memberOf_4 : decode cX9_memberOf 4 = .ok (.bipush 6, 2) := by decide +kernel
theorem dX9_memberOf_6 : decode cX9_memberOf 6 = .ok (.iload_n 1, 1) := by decide +kernel
theorem dX9_memberOf_7 : decode cX9_memberOf 7 = .ok (.imul, 1) := by decide +kernel
theorem dX9_memberOf_8 : decode cX9_memberOf 8 = .ok (.iload_n 2, 1) := by decide +kernel
theorem dX9_memberOf_9 : decode cX9_memberOf 9 = .ok (.iadd, 1) := by decide +kernel
theorem dX9_memberOf_10 : decode cX9_memberOf 10 = .ok (.iaload, 1) := by decide +kernel
theorem dX9_memberOf_11 : decode cX9_memberOf 11 = .ok (.ireturn, 1) := by decide +kernel
theorem dX9_applies_0 : decode cX9_applies 0 = .ok (.aload_n 0, 1) := by decide +kernel
theorem dX9_applies_1 : decode cX9_applies 1 = .ok (.iload_n 1, 1) := by decide +kernel
theorem dX9_applies_2 : decode cX9_applies 2 = .ok (.iconst 1, 1) := by decide +kernel
theorem dX9_applies_3 : decode cX9_applies 3 = .ok (.invokevirtual 166, 3) := by decide +kernel
theorem dX9_applies_6 : decode cX9_applies 6 = .ok (.istore_n 2, 1) := by decide +kernel
theorem dX9_applies_7 : decode cX9_applies 7 = .ok (.aload_n 0, 1) := by decide +kernel
theorem dX9_applies_8 : decode cX9_applies 8 = .ok (.iload_n 1, 1) := by decide +kernel
theorem dX9_applies_9 : decode cX9_applies 9 = .ok (.iconst 2, 1) := by decide +kernel
theorem dX9_applies_10 : decode cX9_applies 10 = .ok (.invokevirtual 166, 3) := by decide +kernel
theorem dX9_applies_13 : decode cX9_applies 13 = .ok (.istore_n 3, 1) := by decide +kernel
theorem dX9_applies_14 : decode cX9_applies 14 = .ok (.aload_n 0, 1) := by decide +kernel
theorem dX9_applies_15 : decode cX9_applies 15 = .ok (.iload_n 1, 1) := by decide +kernel
theorem dX9_applies_16 : decode cX9_applies 16 = .ok (.iconst 3, 1) := by decide +kernel
theorem dX9_applies_17 : decode cX9_applies 17 = .ok (.invokevirtual 166, 3) := by decide +kernel
theorem dX9_applies_20 : decode cX9_applies 20 = .ok (.istore 4, 2) := by decide +kernel
theorem dX9_applies_22 : decode cX9_applies 22 = .ok (.aload_n 0, 1) := by decide +kernel
theorem dX9_applies_23 : decode cX9_applies 23 = .ok (.iload_n 1, 1) := by decide +kernel
theorem dX9_applies_24 : decode cX9_applies 24 = .ok (.iconst 0, 1) := by decide +kernel
theorem dX9_applies_25 : decode cX9_applies 25 = .ok (.invokevirtual 166, 3) := by decide +kernel
theorem dX9_applies_28 : decode cX9_applies 28 = .ok (.tableswitch 156 0 4 #[36, 54, 66, 80, 92], 36) := by decide +kernel
theorem dX9_applies_64 : decode cX9_applies 64 = .ok (.aload_n 0, 1) := by decide +kernel
theorem dX9_applies_65 : decode cX9_applies 65 = .ok (.iload_n 1, 1) := by decide +kernel
theorem dX9_applies_66 : decode cX9_applies 66 = .ok (.iload_n 2, 1) := by decide +kernel
theorem dX9_applies_67 : decode cX9_applies 67 = .ok (.iload_n 3, 1) := by decide +kernel
theorem dX9_applies_68 : decode cX9_applies 68 = .ok (.iload 4, 2) := by decide +kernel
theorem dX9_applies_70 : decode cX9_applies 70 = .ok (.aload_n 0, 1) := by decide +kernel
theorem dX9_applies_71 : decode cX9_applies 71 = .ok (.iload_n 1, 1) := by decide +kernel
theorem dX9_applies_72 : decode cX9_applies 72 = .ok (.iconst 4, 1) := by decide +kernel
theorem dX9_applies_73 : decode cX9_applies 73 = .ok (.invokevirtual 166, 3) := by decide +kernel
theorem dX9_applies_76 : decode cX9_applies 76 = .ok (.invokevirtual 159, 3) := by decide +kernel
theorem dX9_applies_79 : decode cX9_applies 79 = .ok (.goto 172, 3) := by decide +kernel
theorem dX9_applies_82 : decode cX9_applies 82 = .ok (.aload_n 0, 1) := by decide +kernel
theorem dX9_applies_83 : decode cX9_applies 83 = .ok (.iload_n 1, 1) := by decide +kernel
theorem dX9_applies_84 : decode cX9_applies 84 = .ok (.iload_n 2, 1) := by decide +kernel
theorem dX9_applies_85 : decode cX9_applies 85 = .ok (.iload_n 3, 1) := by decide +kernel
theorem dX9_applies_86 : decode cX9_applies 86 = .ok (.iconst 0, 1) := by decide +kernel
theorem dX9_applies_87 : decode cX9_applies 87 = .ok (.iconst 0, 1) := by decide +kernel
theorem dX9_applies_88 : decode cX9_applies 88 = .ok (.invokevirtual 159, 3) := by decide +kernel
theorem dX9_applies_91 : decode cX9_applies 91 = .ok (.goto 160, 3) := by decide +kernel
theorem dX9_applies_94 : decode cX9_applies 94 = .ok (.aload_n 0, 1) := by decide +kernel
theorem dX9_applies_95 : decode cX9_applies 95 = .ok (.iload_n 1, 1) := by decide +kernel
theorem dX9_applies_96 : decode cX9_applies 96 = .ok (.iload_n 2, 1) := by decide +kernel
theorem dX9_applies_97 : decode cX9_applies 97 = .ok (.iload 4, 2) := by decide +kernel
theorem dX9_applies_99 : decode cX9_applies 99 = .ok (.sipush 999, 3) := by decide +kernel
theorem dX9_applies_102 : decode cX9_applies 102 = .ok (.invokevirtual 162, 3) := by decide +kernel
theorem dX9_applies_105 : decode cX9_applies 105 = .ok (.goto 146, 3) := by decide +kernel
theorem dX9_applies_108 : decode cX9_applies 108 = .ok (.aload_n 0, 1) := by decide +kernel
theorem dX9_applies_109 : decode cX9_applies 109 = .ok (.iload_n 1, 1) := by decide +kernel
theorem dX9_applies_110 : decode cX9_applies 110 = .ok (.iload_n 2, 1) := by decide +kernel
theorem dX9_applies_111 : decode cX9_applies 111 = .ok (.iconst 0, 1) := by decide +kernel
theorem dX9_applies_112 : decode cX9_applies 112 = .ok (.iload 4, 2) := by decide +kernel
theorem dX9_applies_114 : decode cX9_applies 114 = .ok (.invokevirtual 162, 3) := by decide +kernel
theorem dX9_applies_117 : decode cX9_applies 117 = .ok (.goto 134, 3) := by decide +kernel
theorem dX9_applies_120 : decode cX9_applies 120 = .ok (.iconst 0, 1) := by decide +kernel
theorem dX9_applies_121 : decode cX9_applies 121 = .ok (.istore 5, 2) := by decide +kernel
theorem dX9_applies_123 : decode cX9_applies 123 = .ok (.iload 5, 2) := by decide +kernel
theorem dX9_applies_125 : decode cX9_applies 125 = .ok (.aload_n 0, 1) := by decide +kernel
theorem dX9_applies_126 : decode cX9_applies 126 = .ok (.getfield 32, 3) := by decide +kernel
theorem dX9_applies_129 : decode cX9_applies 129 = .ok (.iload_n 2, 1) := by decide +kernel
theorem dX9_applies_130 : decode cX9_applies 130 = .ok (.iaload, 1) := by decide +kernel
theorem dX9_applies_131 : decode cX9_applies 131 = .ok (.if_icmp .ge 50, 3) := by decide +kernel
theorem dX9_applies_134 : decode cX9_applies 134 = .ok (.iconst 0, 1) := by decide +kernel
theorem dX9_applies_135 : decode cX9_applies 135 = .ok (.istore 6, 2) := by decide +kernel
theorem dX9_applies_137 : decode cX9_applies 137 = .ok (.iload 6, 2) := by decide +kernel
theorem dX9_applies_139 : decode cX9_applies 139 = .ok (.aload_n 0, 1) := by decide +kernel
theorem dX9_applies_140 : decode cX9_applies 140 = .ok (.getfield 32, 3) := by decide +kernel
theorem dX9_applies_143 : decode cX9_applies 143 = .ok (.iload_n 3, 1) := by decide +kernel
theorem dX9_applies_144 : decode cX9_applies 144 = .ok (.iaload, 1) := by decide +kernel
theorem dX9_applies_145 : decode cX9_applies 145 = .ok (.if_icmp .ge 30, 3) := by decide +kernel
theorem dX9_applies_148 : decode cX9_applies 148 = .ok (.aload_n 0, 1) := by decide +kernel
theorem dX9_applies_149 : decode cX9_applies 149 = .ok (.iload_n 1, 1) := by decide +kernel
theorem dX9_applies_150 : decode cX9_applies 150 = .ok (.aload_n 0, 1) := by decide +kernel
theorem dX9_applies_151 : decode cX9_applies 151 = .ok (.iload_n 2, 1) := by decide +kernel
theorem dX9_applies_152 : decode cX9_applies 152 = .ok (.iload 5, 2) := by decide +kernel
theorem dX9_applies_154 : decode cX9_applies 154 = .ok (.invokevirtual 169, 3) := by decide +kernel
theorem dX9_applies_157 : decode cX9_applies 157 = .ok (.aload_n 0, 1) := by decide +kernel
theorem dX9_applies_158 : decode cX9_applies 158 = .ok (.iload_n 3, 1) := by decide +kernel
theorem dX9_applies_159 : decode cX9_applies 159 = .ok (.iload 6, 2) := by decide +kernel
theorem dX9_applies_161 : decode cX9_applies 161 = .ok (.invokevirtual 169, 3) := by decide +kernel
theorem dX9_applies_164 : decode cX9_applies 164 = .ok (.iload 4, 2) := by decide +kernel
theorem dX9_applies_166 : decode cX9_applies 166 = .ok (.invokevirtual 172, 3) := by decide +kernel
theorem dX9_applies_169 : decode cX9_applies 169 = .ok (.iinc 6 1, 3) := by decide +kernel
theorem dX9_applies_172 : decode cX9_applies 172 = .ok (.goto (-35), 3) := by decide +kernel
theorem dX9_applies_175 : decode cX9_applies 175 = .ok (.iinc 5 1, 3) := by decide +kernel
theorem dX9_applies_178 : decode cX9_applies 178 = .ok (.goto (-55), 3) := by decide +kernel
theorem dX9_applies_181 : decode cX9_applies 181 = .ok (.goto 70, 3) := by decide +kernel
theorem dX9_applies_184 : decode cX9_applies 184 = .ok (.iconst 0, 1) := by decide +kernel
theorem dX9_applies_185 : decode cX9_applies 185 = .ok (.istore 5, 2) := by decide +kernel
theorem dX9_applies_187 : decode cX9_applies 187 = .ok (.iload 5, 2) := by decide +kernel
theorem dX9_applies_189 : decode cX9_applies 189 = .ok (.aload_n 0, 1) := by decide +kernel
theorem dX9_applies_190 : decode cX9_applies 190 = .ok (.getfield 32, 3) := by decide +kernel
theorem dX9_applies_193 : decode cX9_applies 193 = .ok (.iload_n 2, 1) := by decide +kernel
theorem dX9_applies_194 : decode cX9_applies 194 = .ok (.iaload, 1) := by decide +kernel
theorem dX9_applies_195 : decode cX9_applies 195 = .ok (.if_icmp .ge 56, 3) := by decide +kernel
theorem dX9_applies_198 : decode cX9_applies 198 = .ok (.iload 5, 2) := by decide +kernel
theorem dX9_applies_200 : decode cX9_applies 200 = .ok (.iconst 1, 1) := by decide +kernel
theorem dX9_applies_201 : decode cX9_applies 201 = .ok (.iadd, 1) := by decide +kernel
theorem dX9_applies_202 : decode cX9_applies 202 = .ok (.istore 6, 2) := by decide +kernel
theorem dX9_applies_204 : decode cX9_applies 204 = .ok (.iload 6, 2) := by decide +kernel
theorem dX9_applies_206 : decode cX9_applies 206 = .ok (.aload_n 0, 1) := by decide +kernel
theorem dX9_applies_207 : decode cX9_applies 207 = .ok (.getfield 32, 3) := by decide +kernel
theorem dX9_applies_210 : decode cX9_applies 210 = .ok (.iload_n 2, 1) := by decide +kernel
theorem dX9_applies_211 : decode cX9_applies 211 = .ok (.iaload, 1) := by decide +kernel
theorem dX9_applies_212 : decode cX9_applies 212 = .ok (.if_icmp .ge 33, 3) := by decide +kernel
theorem dX9_applies_215 : decode cX9_applies 215 = .ok (.aload_n 0, 1) := by decide +kernel
theorem dX9_applies_216 : decode cX9_applies 216 = .ok (.iload_n 1, 1) := by decide +kernel
theorem dX9_applies_217 : decode cX9_applies 217 = .ok (.aload_n 0, 1) := by decide +kernel
theorem dX9_applies_218 : decode cX9_applies 218 = .ok (.iload_n 2, 1) := by decide +kernel
theorem dX9_applies_219 : decode cX9_applies 219 = .ok (.iload 5, 2) := by decide +kernel
theorem dX9_applies_221 : decode cX9_applies 221 = .ok (.invokevirtual 169, 3) := by decide +kernel
theorem dX9_applies_224 : decode cX9_applies 224 = .ok (.aload_n 0, 1) := by decide +kernel
theorem dX9_applies_225 : decode cX9_applies 225 = .ok (.iload_n 2, 1) := by decide +kernel
theorem dX9_applies_226 : decode cX9_applies 226 = .ok (.iload 6, 2) := by decide +kernel
theorem dX9_applies_228 : decode cX9_applies 228 = .ok (.invokevirtual 169, 3) := by decide +kernel
theorem dX9_applies_231 : decode cX9_applies 231 = .ok (.iload 4, 2) := by decide +kernel
theorem dX9_applies_233 : decode cX9_applies 233 = .ok (.ineg, 1) := by decide +kernel
theorem dX9_applies_234 : decode cX9_applies 234 = .ok (.iload 4, 2) := by decide +kernel
theorem dX9_applies_236 : decode cX9_applies 236 = .ok (.invokevirtual 159, 3) := by decide +kernel
theorem dX9_applies_239 : decode cX9_applies 239 = .ok (.iinc 6 1, 3) := by decide +kernel
theorem dX9_applies_242 : decode cX9_applies 242 = .ok (.goto (-38), 3) := by decide +kernel
theorem dX9_applies_245 : decode cX9_applies 245 = .ok (.iinc 5 1, 3) := by decide +kernel
theorem dX9_applies_248 : decode cX9_applies 248 = .ok (.goto (-61), 3) := by decide +kernel
theorem dX9_applies_251 : decode cX9_applies 251 = .ok (.return_, 1) := by decide +kernel
theorem dX9_lays_0 : decode cX9_lays 0 = .ok (.aload_n 0, 1) := by decide +kernel
theorem dX9_lays_1 : decode cX9_lays 1 = .ok (.getfield 52, 3) := by decide +kernel
theorem dX9_lays_4 : decode cX9_lays 4 = .ok (.iconst (-1), 1) := by decide +kernel
theorem dX9_lays_5 : decode cX9_lays 5 = .ok (.if_icmp .ne 15, 3) := by decide +kernel
theorem dX9_lays_8 : decode cX9_lays 8 = .ok (.aload_n 0, 1) := by decide +kernel
theorem dX9_lays_9 : decode cX9_lays 9 = .ok (.getfield 49, 3) := by decide +kernel
theorem dX9_lays_12 : decode cX9_lays 12 = .ok (.iconst (-1), 1) := by decide +kernel
theorem dX9_lays_13 : decode cX9_lays 13 = .ok (.if_icmp .ne 7, 3) := by decide +kernel
theorem dX9_lays_16 : decode cX9_lays 16 = .ok (.iconst 1, 1) := by decide +kernel
theorem dX9_lays_17 : decode cX9_lays 17 = .ok (.goto 4, 3) := by decide +kernel
theorem dX9_lays_20 : decode cX9_lays 20 = .ok (.iconst 0, 1) := by decide +kernel
theorem dX9_lays_21 : decode cX9_lays 21 = .ok (.istore_n 1, 1) := by decide +kernel
theorem dX9_lays_22 : decode cX9_lays 22 = .ok (.iload_n 1, 1) := by decide +kernel
theorem dX9_lays_23 : decode cX9_lays 23 = .ok (.ifCond .eq 18, 3) := by decide +kernel
theorem dX9_lays_26 : decode cX9_lays 26 = .ok (.aload_n 0, 1) := by decide +kernel
theorem dX9_lays_27 : decode cX9_lays 27 = .ok (.getfield 175, 3) := by decide +kernel
theorem dX9_lays_30 : decode cX9_lays 30 = .ok (.ifCond .eq 11, 3) := by decide +kernel
theorem dX9_lays_33 : decode cX9_lays 33 = .ok (.aload_n 0, 1) := by decide +kernel
theorem dX9_lays_34 : decode cX9_lays 34 = .ok (.getfield 178, 3) := by decide +kernel
theorem dX9_lays_37 : decode cX9_lays 37 = .ok (.ifCond .eq 4, 3) := by decide +kernel
theorem dX9_lays_40 : decode cX9_lays 40 = .ok (.return_, 1) := by decide +kernel
theorem dX9_lays_41 : decode cX9_lays 41 = .ok (.aload_n 0, 1) := by decide +kernel
theorem dX9_lays_42 : decode cX9_lays 42 = .ok (.iload_n 1, 1) := by decide +kernel
theorem dX9_lays_43 : decode cX9_lays 43 = .ok (.putfield 175, 3) := by decide +kernel
theorem dX9_lays_46 : decode cX9_lays 46 = .ok (.aload_n 0, 1) := by decide +kernel
theorem dX9_lays_47 : decode cX9_lays 47 = .ok (.iconst 0, 1) := by decide +kernel
theorem dX9_lays_48 : decode cX9_lays 48 = .ok (.putfield 124, 3) := by decide +kernel
theorem dX9_lays_51 : decode cX9_lays 51 = .ok (.aload_n 0, 1) := by decide +kernel
theorem dX9_lays_52 : decode cX9_lays 52 = .ok (.iconst 0, 1) := by decide +kernel
theorem dX9_lays_53 : decode cX9_lays 53 = .ok (.putfield 181, 3) := by decide +kernel
theorem dX9_lays_56 : decode cX9_lays 56 = .ok (.iconst 0, 1) := by decide +kernel
theorem dX9_lays_57 : decode cX9_lays 57 = .ok (.istore_n 2, 1) := by decide +kernel
theorem dX9_lays_58 : decode cX9_lays 58 = .ok (.iload_n 2, 1) := by decide +kernel
theorem dX9_lays_59 : decode cX9_lays 59 = .ok (.aload_n 0, 1) := by decide +kernel
theorem dX9_lays_60 : decode cX9_lays 60 = .ok (.getfield 184, 3) := by decide +kernel
theorem dX9_lays_63 : decode cX9_lays 63 = .ok (.if_icmp .ge 21, 3) := by decide +kernel
theorem dX9_lays_66 : decode cX9_lays 66 = .ok (.aload_n 0, 1) := by decide +kernel
theorem dX9_lays_67 : decode cX9_lays 67 = .ok (.getfield 178, 3) := by decide +kernel
theorem dX9_lays_70 : decode cX9_lays 70 = .ok (.ifCond .ne 14, 3) := by decide +kernel
theorem dX9_lays_73 : decode cX9_lays 73 = .ok (.aload_n 0, 1) := by decide +kernel
theorem dX9_lays_74 : decode cX9_lays 74 = .ok (.iload_n 2, 1) := by decide +kernel
theorem dX9_lays_75 : decode cX9_lays 75 = .ok (.invokevirtual 187, 3) := by decide +kernel
theorem dX9_lays_78 : decode cX9_lays 78 = .ok (.iinc 2 1, 3) := by decide +kernel
theorem dX9_lays_81 : decode cX9_lays 81 = .ok (.goto (-23), 3) := by decide +kernel
theorem dX9_lays_84 : decode cX9_lays 84 = .ok (.aload_n 0, 1) := by decide +kernel
theorem dX9_lays_85 : decode cX9_lays 85 = .ok (.iconst 1, 1) := by decide +kernel
theorem dX9_lays_86 : decode cX9_lays 86 = .ok (.putfield 178, 3) := by decide +kernel
theorem dX9_lays_89 : decode cX9_lays 89 = .ok (.iconst 0, 1) := by decide +kernel
theorem dX9_lays_90 : decode cX9_lays 90 = .ok (.istore_n 2, 1) := by decide +kernel
theorem dX9_lays_91 : decode cX9_lays 91 = .ok (.iload_n 2, 1) := by decide +kernel
theorem dX9_lays_92 : decode cX9_lays 92 = .ok (.aload_n 0, 1) := by decide +kernel
theorem dX9_lays_93 : decode cX9_lays 93 = .ok (.getfield 184, 3) := by decide +kernel
theorem dX9_lays_96 : decode cX9_lays 96 = .ok (.if_icmp .ge 51, 3) := by decide +kernel
theorem dX9_lays_99 : decode cX9_lays 99 = .ok (.aload_n 0, 1) := by decide +kernel
theorem dX9_lays_100 : decode cX9_lays 100 = .ok (.iload_n 2, 1) := by decide +kernel
theorem dX9_lays_101 : decode cX9_lays 101 = .ok (.invokevirtual 191, 3) := by decide +kernel
theorem dX9_lays_104 : decode cX9_lays 104 = .ok (.iconst 0, 1) := by decide +kernel
theorem dX9_lays_105 : decode cX9_lays 105 = .ok (.istore_n 3, 1) := by decide +kernel
theorem dX9_lays_106 : decode cX9_lays 106 = .ok (.iload_n 3, 1) := by decide +kernel
theorem dX9_lays_107 : decode cX9_lays 107 = .ok (.sipush 1000, 3) := by decide +kernel
theorem dX9_lays_110 : decode cX9_lays 110 = .ok (.if_icmp .ge 25, 3) := by decide +kernel
theorem dX9_lays_113 : decode cX9_lays 113 = .ok (.aload_n 0, 1) := by decide +kernel
theorem dX9_lays_114 : decode cX9_lays 114 = .ok (.getfield 43, 3) := by decide +kernel
theorem dX9_lays_117 : decode cX9_lays 117 = .ok (.iload_n 2, 1) := by decide +kernel
theorem dX9_lays_118 : decode cX9_lays 118 = .ok (.aaload, 1) := by decide +kernel
theorem dX9_lays_119 : decode cX9_lays 119 = .ok (.iload_n 3, 1) := by decide +kernel
theorem dX9_lays_120 : decode cX9_lays 120 = .ok (.aload_n 0, 1) := by decide +kernel
theorem dX9_lays_121 : decode cX9_lays 121 = .ok (.getfield 40, 3) := by decide +kernel
theorem dX9_lays_124 : decode cX9_lays 124 = .ok (.iload_n 2, 1) := by decide +kernel
theorem dX9_lays_125 : decode cX9_lays 125 = .ok (.aaload, 1) := by decide +kernel
theorem dX9_lays_126 : decode cX9_lays 126 = .ok (.iload_n 3, 1) := by decide +kernel
theorem dX9_lays_127 : decode cX9_lays 127 = .ok (.baload, 1) := by decide +kernel
theorem dX9_lays_128 : decode cX9_lays 128 = .ok (.bastore, 1) := by decide +kernel
theorem dX9_lays_129 : decode cX9_lays 129 = .ok (.iinc 3 1, 3) := by decide +kernel
theorem dX9_lays_132 : decode cX9_lays 132 = .ok (.goto (-26), 3) := by decide +kernel
theorem dX9_lays_135 : decode cX9_lays 135 = .ok (.aload_n 0, 1) := by decide +kernel
theorem dX9_lays_136 : decode cX9_lays 136 = .ok (.iconst (-1), 1) := by decide +kernel
theorem dX9_lays_137 : decode cX9_lays 137 = .ok (.iload_n 2, 1) := by decide +kernel
theorem dX9_lays_138 : decode cX9_lays 138 = .ok (.invokevirtual 151, 3) := by decide +kernel
theorem dX9_lays_141 : decode cX9_lays 141 = .ok (.iinc 2 1, 3) := by decide +kernel
theorem dX9_lays_144 : decode cX9_lays 144 = .ok (.goto (-53), 3) := by decide +kernel
theorem dX9_lays_147 : decode cX9_lays 147 = .ok (.iconst 0, 1) := by decide +kernel
theorem dX9_lays_148 : decode cX9_lays 148 = .ok (.istore_n 2, 1) := by decide +kernel
theorem dX9_lays_149 : decode cX9_lays 149 = .ok (.iload_n 2, 1) := by decide +kernel
theorem dX9_lays_150 : decode cX9_lays 150 = .ok (.bipush 24, 2) := by decide +kernel
theorem dX9_lays_152 : decode cX9_lays 152 = .ok (.if_icmp .ge 16, 3) := by decide +kernel
theorem dX9_lays_155 : decode cX9_lays 155 = .ok (.aload_n 0, 1) := by decide +kernel
theorem dX9_lays_156 : decode cX9_lays 156 = .ok (.getfield 55, 3) := by decide +kernel
theorem dX9_lays_159 : decode cX9_lays 159 = .ok (.iload_n 2, 1) := by decide +kernel
theorem dX9_lays_160 : decode cX9_lays 160 = .ok (.iconst 0, 1) := by decide +kernel
theorem dX9_lays_161 : decode cX9_lays 161 = .ok (.iastore, 1) := by decide +kernel
theorem dX9_lays_162 : decode cX9_lays 162 = .ok (.iinc 2 1, 3) := by decide +kernel
theorem dX9_lays_165 : decode cX9_lays 165 = .ok (.goto (-16), 3) := by decide +kernel
theorem dX9_lays_168 : decode cX9_lays 168 = .ok (.aload_n 0, 1) := by decide +kernel
theorem dX9_lays_169 : decode cX9_lays 169 = .ok (.iconst 0, 1) := by decide +kernel
theorem dX9_lays_170 : decode cX9_lays 170 = .ok (.putfield 138, 3) := by decide +kernel
theorem dX9_lays_173 : decode cX9_lays 173 = .ok (.aload_n 0, 1) := by decide +kernel
theorem dX9_lays_174 : decode cX9_lays 174 = .ok (.dup, 1) := by decide +kernel
theorem dX9_lays_175 : decode cX9_lays 175 = .ok (.getfield 181, 3) := by decide +kernel
theorem dX9_lays_178 : decode cX9_lays 178 = .ok (.iconst 1, 1) := by decide +kernel
theorem dX9_lays_179 : decode cX9_lays 179 = .ok (.iadd, 1) := by decide +kernel
theorem dX9_lays_180 : decode cX9_lays 180 = .ok (.putfield 181, 3) := by decide +kernel
theorem dX9_lays_183 : decode cX9_lays 183 = .ok (.iconst 0, 1) := by decide +kernel
theorem dX9_lays_184 : decode cX9_lays 184 = .ok (.istore_n 2, 1) := by decide +kernel
theorem dX9_lays_185 : decode cX9_lays 185 = .ok (.iload_n 2, 1) := by decide +kernel
theorem dX9_lays_186 : decode cX9_lays 186 = .ok (.aload_n 0, 1) := by decide +kernel
theorem dX9_lays_187 : decode cX9_lays 187 = .ok (.getfield 17, 3) := by decide +kernel
theorem dX9_lays_190 : decode cX9_lays 190 = .ok (.iconst 2, 1) := by decide +kernel
theorem dX9_lays_191 : decode cX9_lays 191 = .ok (.iaload, 1) := by decide +kernel
theorem dX9_lays_192 : decode cX9_lays 192 = .ok (.if_icmp .ge 22, 3) := by decide +kernel
theorem dX9_lays_195 : decode cX9_lays 195 = .ok (.iload_n 2, 1) := by decide +kernel
theorem dX9_lays_196 : decode cX9_lays 196 = .ok (.aload_n 0, 1) := by decide +kernel
theorem dX9_lays_197 : decode cX9_lays 197 = .ok (.getfield 52, 3) := by decide +kernel
theorem dX9_lays_200 : decode cX9_lays 200 = .ok (.if_icmp .eq 8, 3) := by decide +kernel
theorem dX9_lays_203 : decode cX9_lays 203 = .ok (.aload_n 0, 1) := by decide +kernel
theorem dX9_lays_204 : decode cX9_lays 204 = .ok (.iload_n 2, 1) := by decide +kernel
theorem dX9_lays_205 : decode cX9_lays 205 = .ok (.invokevirtual 194, 3) := by decide +kernel
theorem dX9_lays_208 : decode cX9_lays 208 = .ok (.iinc 2 1, 3) := by decide +kernel
theorem dX9_lays_211 : decode cX9_lays 211 = .ok (.goto (-26), 3) := by decide +kernel
theorem dX9_lays_214 : decode cX9_lays 214 = .ok (.aload_n 0, 1) := by decide +kernel
theorem dX9_lays_215 : decode cX9_lays 215 = .ok (.getfield 138, 3) := by decide +kernel
theorem dX9_lays_218 : decode cX9_lays 218 = .ok (.ifCond .gt (-50), 3) := by decide +kernel
theorem dX9_lays_221 : decode cX9_lays 221 = .ok (.return_, 1) := by decide +kernel
theorem dX9_yearsAll_0 : decode cX9_yearsAll 0 = .ok (.iconst 0, 1) := by decide +kernel
theorem dX9_yearsAll_1 : decode cX9_yearsAll 1 = .ok (.istore_n 1, 1) := by decide +kernel
theorem dX9_yearsAll_2 : decode cX9_yearsAll 2 = .ok (.iconst 0, 1) := by decide +kernel
theorem dX9_yearsAll_3 : decode cX9_yearsAll 3 = .ok (.istore_n 2, 1) := by decide +kernel
theorem dX9_yearsAll_4 : decode cX9_yearsAll 4 = .ok (.iload_n 2, 1) := by decide +kernel
theorem dX9_yearsAll_5 : decode cX9_yearsAll 5 = .ok (.aload_n 0, 1) := by decide +kernel
theorem dX9_yearsAll_6 : decode cX9_yearsAll 6 = .ok (.getfield 184, 3) := by decide +kernel
theorem dX9_yearsAll_9 : decode cX9_yearsAll 9 = .ok (.if_icmp .ge 22, 3) := by decide +kernel
theorem dX9_yearsAll_12 : decode cX9_yearsAll 12 = .ok (.iload_n 1, 1) := by decide +kernel
theorem dX9_yearsAll_13 : decode cX9_yearsAll 13 = .ok (.aload_n 0, 1) := by decide +kernel
theorem dX9_yearsAll_14 : decode cX9_yearsAll 14 = .ok (.aload_n 0, 1) := by decide +kernel
theorem dX9_yearsAll_15 : decode cX9_yearsAll 15 = .ok (.getfield 43, 3) := by decide +kernel
theorem dX9_yearsAll_18 : decode cX9_yearsAll 18 = .ok (.iload_n 2, 1) := by decide +kernel
theorem dX9_yearsAll_19 : decode cX9_yearsAll 19 = .ok (.aaload, 1) := by decide +kernel
theorem dX9_yearsAll_20 : decode cX9_yearsAll 20 = .ok (.invokevirtual 128, 3) := by decide +kernel
theorem dX9_yearsAll_23 : decode cX9_yearsAll 23 = .ok (.iadd, 1) := by decide +kernel
theorem dX9_yearsAll_24 : decode cX9_yearsAll 24 = .ok (.istore_n 1, 1) := by decide +kernel
theorem dX9_yearsAll_25 : decode cX9_yearsAll 25 = .ok (.iinc 2 1, 3) := by decide +kernel
theorem dX9_yearsAll_28 : decode cX9_yearsAll 28 = .ok (.goto (-24), 3) := by decide +kernel
theorem dX9_yearsAll_31 : decode cX9_yearsAll 31 = .ok (.iload_n 1, 1) := by decide +kernel
theorem dX9_yearsAll_32 : decode cX9_yearsAll 32 = .ok (.ireturn, 1) := by decide +kernel
theorem dX9_empties_0 : decode cX9_empties 0 = .ok (.iconst 0, 1) := by decide +kernel
theorem dX9_empties_1 : decode cX9_empties 1 = .ok (.istore_n 1, 1) := by decide +kernel
theorem dX9_empties_2 : decode cX9_empties 2 = .ok (.iconst 0, 1) := by decide +kernel
theorem dX9_empties_3 : decode cX9_empties 3 = .ok (.istore_n 2, 1) := by decide +kernel
theorem dX9_empties_4 : decode cX9_empties 4 = .ok (.iload_n 2, 1) := by decide +kernel
theorem dX9_empties_5 : decode cX9_empties 5 = .ok (.aload_n 0, 1) := by decide +kernel
theorem dX9_empties_6 : decode cX9_empties 6 = .ok (.getfield 184, 3) := by decide +kernel
theorem dX9_empties_9 : decode cX9_empties 9 = .ok (.if_icmp .ge 30, 3) := by decide +kernel
theorem dX9_empties_12 : decode cX9_empties 12 = .ok (.iload_n 1, 1) := by decide +kernel
theorem dX9_empties_13 : decode cX9_empties 13 = .ok (.aload_n 0, 1) := by decide +kernel
theorem dX9_empties_14 : decode cX9_empties 14 = .ok (.aload_n 0, 1) := by decide +kernel
theorem dX9_empties_15 : decode cX9_empties 15 = .ok (.getfield 43, 3) := by decide +kernel
theorem dX9_empties_18 : decode cX9_empties 18 = .ok (.iload_n 2, 1) := by decide +kernel
theorem dX9_empties_19 : decode cX9_empties 19 = .ok (.aaload, 1) := by decide +kernel
theorem dX9_empties_20 : decode cX9_empties 20 = .ok (.invokevirtual 128, 3) := by decide +kernel
theorem dX9_empties_23 : decode cX9_empties 23 = .ok (.ifCond .ne 7, 3) := by decide +kernel
theorem dX9_empties_26 : decode cX9_empties 26 = .ok (.iconst 1, 1) := by decide +kernel
theorem dX9_empties_27 : decode cX9_empties 27 = .ok (.goto 4, 3) := by decide +kernel
theorem dX9_empties_30 : decode cX9_empties 30 = .ok (.iconst 0, 1) := by decide +kernel
theorem dX9_empties_31 : decode cX9_empties 31 = .ok (.iadd, 1) := by decide +kernel
theorem dX9_empties_32 : decode cX9_empties 32 = .ok (.istore_n 1, 1) := by decide +kernel
theorem dX9_empties_33 : decode cX9_empties 33 = .ok (.iinc 2 1, 3) := by decide +kernel
theorem dX9_empties_36 : decode cX9_empties 36 = .ok (.goto (-32), 3) := by decide +kernel
theorem dX9_empties_39 : decode cX9_empties 39 = .ok (.iload_n 1, 1) := by decide +kernel
theorem dX9_empties_40 : decode cX9_empties 40 = .ok (.ireturn, 1) := by decide +kernel
theorem dX9_feed_0 : decode cX9_feed 0 = .ok (.aload_n 0, 1) := by decide +kernel
theorem dX9_feed_1 : decode cX9_feed 1 = .ok (.iconst 0, 1) := by decide +kernel
theorem dX9_feed_2 : decode cX9_feed 2 = .ok (.putfield 1, 3) := by decide +kernel
theorem dX9_feed_5 : decode cX9_feed 5 = .ok (.aload_n 0, 1) := by decide +kernel
theorem dX9_feed_6 : decode cX9_feed 6 = .ok (.getfield 197, 3) := by decide +kernel
theorem dX9_feed_9 : decode cX9_feed 9 = .ok (.bipush 20, 2) := by decide +kernel
theorem dX9_feed_11 : decode cX9_feed 11 = .ok (.iadd, 1) := by decide +kernel
theorem dX9_feed_12 : decode cX9_feed 12 = .ok (.sipush 500, 3) := by decide +kernel
theorem dX9_feed_15 : decode cX9_feed 15 = .ok (.if_icmp .le 5, 3) := by decide +kernel
theorem dX9_feed_18 : decode cX9_feed 18 = .ok (.iconst (-1), 1) := by decide +kernel
theorem dX9_feed_19 : decode cX9_feed 19 = .ok (.ireturn, 1) := by decide +kernel
theorem dX9_feed_20 : decode cX9_feed 20 = .ok (.aload_n 0, 1) := by decide +kernel
theorem dX9_feed_21 : decode cX9_feed 21 = .ok (.iload_n 1, 1) := by decide +kernel
theorem dX9_feed_22 : decode cX9_feed 22 = .ok (.invokevirtual 200, 3) := by decide +kernel
theorem dX9_feed_25 : decode cX9_feed 25 = .ok (.aload_n 0, 1) := by decide +kernel
theorem dX9_feed_26 : decode cX9_feed 26 = .ok (.iload_n 2, 1) := by decide +kernel
theorem dX9_feed_27 : decode cX9_feed 27 = .ok (.invokevirtual 200, 3) := by decide +kernel
theorem dX9_feed_30 : decode cX9_feed 30 = .ok (.aload_n 0, 1) := by decide +kernel
theorem dX9_feed_31 : decode cX9_feed 31 = .ok (.iload_n 3, 1) := by decide +kernel
theorem dX9_feed_32 : decode cX9_feed 32 = .ok (.invokevirtual 200, 3) := by decide +kernel
theorem dX9_feed_35 : decode cX9_feed 35 = .ok (.aload_n 0, 1) := by decide +kernel
theorem dX9_feed_36 : decode cX9_feed 36 = .ok (.iload 4, 2) := by decide +kernel
theorem dX9_feed_38 : decode cX9_feed 38 = .ok (.invokevirtual 200, 3) := by decide +kernel
theorem dX9_feed_41 : decode cX9_feed 41 = .ok (.aload_n 0, 1) := by decide +kernel
theorem dX9_feed_42 : decode cX9_feed 42 = .ok (.iload 5, 2) := by decide +kernel
theorem dX9_feed_44 : decode cX9_feed 44 = .ok (.invokevirtual 200, 3) := by decide +kernel
theorem dX9_feed_47 : decode cX9_feed 47 = .ok (.aload_n 0, 1) := by decide +kernel
theorem dX9_feed_48 : decode cX9_feed 48 = .ok (.getfield 197, 3) := by decide +kernel
theorem dX9_feed_51 : decode cX9_feed 51 = .ok (.ireturn, 1) := by decide +kernel
theorem dX9_puts_0 : decode cX9_puts 0 = .ok (.bipush 24, 2) := by decide +kernel
theorem dX9_puts_2 : decode cX9_puts 2 = .ok (.istore_n 2, 1) := by decide +kernel
theorem dX9_puts_3 : decode cX9_puts 3 = .ok (.iload_n 2, 1) := by decide +kernel
theorem dX9_puts_4 : decode cX9_puts 4 = .ok (.ifCond .lt 32, 3) := by decide +kernel
theorem dX9_puts_7 : decode cX9_puts 7 = .ok (.aload_n 0, 1) := by decide +kernel
theorem dX9_puts_8 : decode cX9_puts 8 = .ok (.getfield 65, 3) := by decide +kernel
theorem dX9_puts_11 : decode cX9_puts 11 = .ok (.aload_n 0, 1) := by decide +kernel
theorem dX9_puts_12 : decode cX9_puts 12 = .ok (.getfield 197, 3) := by decide +kernel
theorem dX9_puts_15 : decode cX9_puts 15 = .ok (.iload_n 1, 1) := by decide +kernel
theorem dX9_puts_16 : decode cX9_puts 16 = .ok (.iload_n 2, 1) := by decide +kernel
theorem dX9_puts_17 : decode cX9_puts 17 = .ok (.ishr, 1) := by decide +kernel
theorem dX9_puts_18 : decode cX9_puts 18 = .ok (.i2b, 1) := by decide +kernel
theorem dX9_puts_19 : decode cX9_puts 19 = .ok (.bastore, 1) := by decide +kernel
theorem dX9_puts_20 : decode cX9_puts 20 = .ok (.aload_n 0, 1) := by decide +kernel
theorem dX9_puts_21 : decode cX9_puts 21 = .ok (.dup, 1) := by decide +kernel
theorem dX9_puts_22 : decode cX9_puts 22 = .ok (.getfield 197, 3) := by decide +kernel
theorem dX9_puts_25 : decode cX9_puts 25 = .ok (.iconst 1, 1) := by decide +kernel
theorem dX9_puts_26 : decode cX9_puts 26 = .ok (.iadd, 1) := by decide +kernel
theorem dX9_puts_27 : decode cX9_puts 27 = .ok (.putfield 197, 3) := by decide +kernel
theorem dX9_puts_30 : decode cX9_puts 30 = .ok (.iinc 2 (-8), 3) := by decide +kernel
theorem dX9_puts_33 : decode cX9_puts 33 = .ok (.goto (-30), 3) := by decide +kernel
theorem dX9_puts_36 : decode cX9_puts 36 = .ok (.return_, 1) := by decide +kernel
theorem dX9_wrong_0 : decode cX9_wrong 0 = .ok (.aload_n 0, 1) := by decide +kernel
theorem dX9_wrong_1 : decode cX9_wrong 1 = .ok (.getfield 203, 3) := by decide +kernel
theorem dX9_wrong_4 : decode cX9_wrong 4 = .ok (.ifCond .le 4, 3) := by decide +kernel
theorem dX9_wrong_7 : decode cX9_wrong 7 = .ok (.return_, 1) := by decide +kernel
theorem dX9_wrong_8 : decode cX9_wrong 8 = .ok (.aload_n 0, 1) := by decide +kernel
theorem dX9_wrong_9 : decode cX9_wrong 9 = .ok (.iload_n 1, 1) := by decide +kernel
theorem dX9_wrong_10 : decode cX9_wrong 10 = .ok (.putfield 203, 3) := by decide +kernel
theorem dX9_wrong_13 : decode cX9_wrong 13 = .ok (.aload_n 0, 1) := by decide +kernel
theorem dX9_wrong_14 : decode cX9_wrong 14 = .ok (.iload_n 2, 1) := by decide +kernel
theorem dX9_wrong_15 : decode cX9_wrong 15 = .ok (.putfield 206, 3) := by decide +kernel
theorem dX9_wrong_18 : decode cX9_wrong 18 = .ok (.return_, 1) := by decide +kernel
theorem dX9_sign_0 : decode cX9_sign 0 = .ok (.aload_n 0, 1) := by decide +kernel
theorem dX9_sign_1 : decode cX9_sign 1 = .ok (.getfield 209, 3) := by decide +kernel
theorem dX9_sign_4 : decode cX9_sign 4 = .ok (.aload_n 0, 1) := by decide +kernel
theorem dX9_sign_5 : decode cX9_sign 5 = .ok (.getfield 212, 3) := by decide +kernel
theorem dX9_sign_8 : decode cX9_sign 8 = .ok (.if_icmp .ge 30, 3) := by decide +kernel
theorem dX9_sign_11 : decode cX9_sign 11 = .ok (.aload_n 0, 1) := by decide +kernel
theorem dX9_sign_12 : decode cX9_sign 12 = .ok (.getfield 69, 3) := by decide +kernel
theorem dX9_sign_15 : decode cX9_sign 15 = .ok (.aload_n 0, 1) := by decide +kernel
theorem dX9_sign_16 : decode cX9_sign 16 = .ok (.getfield 209, 3) := by decide +kernel
theorem dX9_sign_19 : decode cX9_sign 19 = .ok (.baload, 1) := by decide +kernel
theorem dX9_sign_20 : decode cX9_sign 20 = .ok (.bipush 32, 2) := by decide +kernel
theorem dX9_sign_22 : decode cX9_sign 22 = .ok (.if_icmp .ne 16, 3) := by decide +kernel
theorem dX9_sign_25 : decode cX9_sign 25 = .ok (.aload_n 0, 1) := by decide +kernel
theorem dX9_sign_26 : decode cX9_sign 26 = .ok (.dup, 1) := by decide +kernel
theorem dX9_sign_27 : decode cX9_sign 27 = .ok (.getfield 209, 3) := by decide +kernel
theorem dX9_sign_30 : decode cX9_sign 30 = .ok (.iconst 1, 1) := by decide +kernel
theorem dX9_sign_31 : decode cX9_sign 31 = .ok (.iadd, 1) := by decide +kernel
theorem dX9_sign_32 : decode cX9_sign 32 = .ok (.putfield 209, 3) := by decide +kernel
theorem dX9_sign_35 : decode cX9_sign 35 = .ok (.goto (-35), 3) := by decide +kernel
theorem dX9_sign_38 : decode cX9_sign 38 = .ok (.aload_n 0, 1) := by decide +kernel
theorem dX9_sign_39 : decode cX9_sign 39 = .ok (.getfield 209, 3) := by decide +kernel
theorem dX9_sign_42 : decode cX9_sign 42 = .ok (.aload_n 0, 1) := by decide +kernel
theorem dX9_sign_43 : decode cX9_sign 43 = .ok (.getfield 212, 3) := by decide +kernel
theorem dX9_sign_46 : decode cX9_sign 46 = .ok (.if_icmp .ge 15, 3) := by decide +kernel
theorem dX9_sign_49 : decode cX9_sign 49 = .ok (.aload_n 0, 1) := by decide +kernel
theorem dX9_sign_50 : decode cX9_sign 50 = .ok (.getfield 69, 3) := by decide +kernel
theorem dX9_sign_53 : decode cX9_sign 53 = .ok (.aload_n 0, 1) := by decide +kernel
theorem dX9_sign_54 : decode cX9_sign 54 = .ok (.getfield 209, 3) := by decide +kernel
theorem dX9_sign_57 : decode cX9_sign 57 = .ok (.baload, 1) := by decide +kernel
theorem dX9_sign_58 : decode cX9_sign 58 = .ok (.goto 4, 3) := by decide +kernel
theorem dX9_sign_61 : decode cX9_sign 61 = .ok (.iconst 0, 1) := by decide +kernel
theorem dX9_sign_62 : decode cX9_sign 62 = .ok (.ireturn, 1) := by decide +kernel
theorem dX9_isSign_0 : decode cX9_isSign 0 = .ok (.aload_n 0, 1) := by decide +kernel
theorem dX9_isSign_1 : decode cX9_isSign 1 = .ok (.getfield 203, 3) := by decide +kernel
theorem dX9_isSign_4 : decode cX9_isSign 4 = .ok (.ifCond .ne 26, 3) := by decide +kernel
theorem dX9_isSign_7 : decode cX9_isSign 7 = .ok (.aload_n 0, 1) := by decide +kernel
theorem dX9_isSign_8 : decode cX9_isSign 8 = .ok (.invokevirtual 214, 3) := by decide +kernel
theorem dX9_isSign_11 : decode cX9_isSign 11 = .ok (.iload_n 1, 1) := by decide +kernel
theorem dX9_isSign_12 : decode cX9_isSign 12 = .ok (.if_icmp .ne 18, 3) := by decide +kernel
theorem dX9_isSign_15 : decode cX9_isSign 15 = .ok (.aload_n 0, 1) := by decide +kernel
theorem dX9_isSign_16 : decode cX9_isSign 16 = .ok (.getfield 209, 3) := by decide +kernel
theorem dX9_isSign_19 : decode cX9_isSign 19 = .ok (.aload_n 0, 1) := by decide +kernel
theorem dX9_isSign_20 : decode cX9_isSign 20 = .ok (.getfield 212, 3) := by decide +kernel
theorem dX9_isSign_23 : decode cX9_isSign 23 = .ok (.if_icmp .ge 7, 3) := by decide +kernel
theorem dX9_isSign_26 : decode cX9_isSign 26 = .ok (.iconst 1, 1) := by decide +kernel
theorem dX9_isSign_27 : decode cX9_isSign 27 = .ok (.goto 4, 3) := by decide +kernel
theorem dX9_isSign_30 : decode cX9_isSign 30 = .ok (.iconst 0, 1) := by decide +kernel
theorem dX9_isSign_31 : decode cX9_isSign 31 = .ok (.ireturn, 1) := by decide +kernel
theorem dX9_isDigit_0 : decode cX9_isDigit 0 = .ok (.aload_n 0, 1) := by decide +kernel
theorem dX9_isDigit_1 : decode cX9_isDigit 1 = .ok (.getfield 203, 3) := by decide +kernel
theorem dX9_isDigit_4 : decode cX9_isDigit 4 = .ok (.ifCond .ne 25, 3) := by decide +kernel
theorem dX9_isDigit_7 : decode cX9_isDigit 7 = .ok (.aload_n 0, 1) := by decide +kernel
theorem dX9_isDigit_8 : decode cX9_isDigit 8 = .ok (.invokevirtual 214, 3) := by decide +kernel
theorem dX9_isDigit_11 : decode cX9_isDigit 11 = .ok (.bipush 48, 2) := by decide +kernel
theorem dX9_isDigit_13 : decode cX9_isDigit 13 = .ok (.if_icmp .lt 16, 3) := by decide +kernel
theorem dX9_isDigit_16 : decode cX9_isDigit 16 = .ok (.aload_n 0, 1) := by decide +kernel
theorem dX9_isDigit_17 : decode cX9_isDigit 17 = .ok (.invokevirtual 214, 3) := by decide +kernel
theorem dX9_isDigit_20 : decode cX9_isDigit 20 = .ok (.bipush 57, 2) := by decide +kernel
theorem dX9_isDigit_22 : decode cX9_isDigit 22 = .ok (.if_icmp .gt 7, 3) := by decide +kernel
theorem dX9_isDigit_25 : decode cX9_isDigit 25 = .ok (.iconst 1, 1) := by decide +kernel
theorem dX9_isDigit_26 : decode cX9_isDigit 26 = .ok (.goto 4, 3) := by decide +kernel
theorem dX9_isDigit_29 : decode cX9_isDigit 29 = .ok (.iconst 0, 1) := by decide +kernel
theorem dX9_isDigit_30 : decode cX9_isDigit 30 = .ok (.ireturn, 1) := by decide +kernel
theorem dX9_isSmall_0 : decode cX9_isSmall 0 = .ok (.iload_n 1, 1) := by decide +kernel
theorem dX9_isSmall_1 : decode cX9_isSmall 1 = .ok (.aload_n 0, 1) := by decide +kernel
theorem dX9_isSmall_2 : decode cX9_isSmall 2 = .ok (.getfield 212, 3) := by decide +kernel
theorem dX9_isSmall_5 : decode cX9_isSmall 5 = .ok (.if_icmp .ge 29, 3) := by decide +kernel
theorem dX9_isSmall_8 : decode cX9_isSmall 8 = .ok (.aload_n 0, 1) := by decide +kernel
theorem dX9_isSmall_9 : decode cX9_isSmall 9 = .ok (.getfield 69, 3) := by decide +kernel
theorem dX9_isSmall_12 : decode cX9_isSmall 12 = .ok (.iload_n 1, 1) := by decide +kernel
theorem dX9_isSmall_13 : decode cX9_isSmall 13 = .ok (.baload, 1) := by decide +kernel
theorem dX9_isSmall_14 : decode cX9_isSmall 14 = .ok (.bipush 97, 2) := by decide +kernel
theorem dX9_isSmall_16 : decode cX9_isSmall 16 = .ok (.if_icmp .lt 18, 3) := by decide +kernel
theorem dX9_isSmall_19 : decode cX9_isSmall 19 = .ok (.aload_n 0, 1) := by decide +kernel
theorem dX9_isSmall_20 : decode cX9_isSmall 20 = .ok (.getfield 69, 3) := by decide +kernel
theorem dX9_isSmall_23 : decode cX9_isSmall 23 = .ok (.iload_n 1, 1) := by decide +kernel
theorem dX9_isSmall_24 : decode cX9_isSmall 24 = .ok (.baload, 1) := by decide +kernel
theorem dX9_isSmall_25 : decode cX9_isSmall 25 = .ok (.bipush 122, 2) := by decide +kernel
theorem dX9_isSmall_27 : decode cX9_isSmall 27 = .ok (.if_icmp .gt 7, 3) := by decide +kernel
theorem dX9_isSmall_30 : decode cX9_isSmall 30 = .ok (.iconst 1, 1) := by decide +kernel
theorem dX9_isSmall_31 : decode cX9_isSmall 31 = .ok (.goto 4, 3) := by decide +kernel
theorem dX9_isSmall_34 : decode cX9_isSmall 34 = .ok (.iconst 0, 1) := by decide +kernel
theorem dX9_isSmall_35 : decode cX9_isSmall 35 = .ok (.ireturn, 1) := by decide +kernel
theorem dX9_isWordHere_0 : decode cX9_isWordHere 0 = .ok (.aload_n 0, 1) := by decide +kernel
theorem dX9_isWordHere_1 : decode cX9_isWordHere 1 = .ok (.invokevirtual 214, 3) := by decide +kernel
theorem dX9_isWordHere_4 : decode cX9_isWordHere 4 = .ok (.pop, 1) := by decide +kernel
theorem dX9_isWordHere_5 : decode cX9_isWordHere 5 = .ok (.aload_n 0, 1) := by decide +kernel
theorem dX9_isWordHere_6 : decode cX9_isWordHere 6 = .ok (.getfield 203, 3) := by decide +kernel
theorem dX9_isWordHere_9 : decode cX9_isWordHere 9 = .ok (.ifCond .ne 18, 3) := by decide +kernel
theorem dX9_isWordHere_12 : decode cX9_isWordHere 12 = .ok (.aload_n 0, 1) := by decide +kernel
theorem dX9_isWordHere_13 : decode cX9_isWordHere 13 = .ok (.aload_n 0, 1) := by decide +kernel
theorem dX9_isWordHere_14 : decode cX9_isWordHere 14 = .ok (.getfield 209, 3) := by decide +kernel
theorem dX9_isWordHere_17 : decode cX9_isWordHere 17 = .ok (.invokevirtual 218, 3) := by decide +kernel
theorem dX9_isWordHere_20 : decode cX9_isWordHere 20 = .ok (.ifCond .eq 7, 3) := by decide +kernel
theorem dX9_isWordHere_23 : decode cX9_isWordHere 23 = .ok (.iconst 1, 1) := by decide +kernel
theorem dX9_isWordHere_24 : decode cX9_isWordHere 24 = .ok (.goto 4, 3) := by decide +kernel
theorem dX9_isWordHere_27 : decode cX9_isWordHere 27 = .ok (.iconst 0, 1) := by decide +kernel
theorem dX9_isWordHere_28 : decode cX9_isWordHere 28 = .ok (.ireturn, 1) := by decide +kernel
theorem dX9_ends_0 : decode cX9_ends 0 = .ok (.aload_n 0, 1) := by decide +kernel
theorem dX9_ends_1 : decode cX9_ends 1 = .ok (.getfield 209, 3) := by decide +kernel
theorem dX9_ends_4 : decode cX9_ends 4 = .ok (.istore_n 1, 1) := by decide +kernel
theorem dX9_ends_5 : decode cX9_ends 5 = .ok (.aload_n 0, 1) := by decide +kernel
theorem dX9_ends_6 : decode cX9_ends 6 = .ok (.iload_n 1, 1) := by decide +kernel
theorem dX9_ends_7 : decode cX9_ends 7 = .ok (.invokevirtual 218, 3) := by decide +kernel
theorem dX9_ends_10 : decode cX9_ends 10 = .ok (.ifCond .eq 9, 3) := by decide +kernel
theorem dX9_ends_13 : decode cX9_ends 13 = .ok (.iinc 1 1, 3) := by decide +kernel
theorem dX9_ends_16 : decode cX9_ends 16 = .ok (.goto (-11), 3) := by decide +kernel
theorem dX9_ends_19 : decode cX9_ends 19 = .ok (.iload_n 1, 1) := by decide +kernel
theorem dX9_ends_20 : decode cX9_ends 20 = .ok (.ireturn, 1) := by decide +kernel
theorem dX9_passes_0 : decode cX9_passes 0 = .ok (.aload_n 0, 1) := by decide +kernel
theorem dX9_passes_1 : decode cX9_passes 1 = .ok (.invokevirtual 222, 3) := by decide +kernel
theorem dX9_passes_4 : decode cX9_passes 4 = .ok (.ifCond .eq 19, 3) := by decide +kernel
theorem dX9_passes_7 : decode cX9_passes 7 = .ok (.aload_n 0, 1) := by decide +kernel
theorem dX9_passes_8 : decode cX9_passes 8 = .ok (.invokevirtual 226, 3) := by decide +kernel
theorem dX9_passes_11 : decode cX9_passes 11 = .ok (.aload_n 0, 1) := by decide +kernel
theorem dX9_passes_12 : decode cX9_passes 12 = .ok (.getfield 209, 3) := by decide +kernel
theorem dX9_passes_15 : decode cX9_passes 15 = .ok (.isub, 1) := by decide +kernel
theorem dX9_passes_16 : decode cX9_passes 16 = .ok (.aload_n 1, 1) := by decide +kernel
theorem dX9_passes_17 : decode cX9_passes 17 = .ok (.invokevirtual 229, 3) := by decide +kernel
theorem dX9_passes_20 : decode cX9_passes 20 = .ok (.if_icmp .eq 5, 3) := by decide +kernel
theorem dX9_passes_23 : decode cX9_passes 23 = .ok (.iconst 0, 1) := by decide +kernel
theorem dX9_passes_24 : decode cX9_passes 24 = .ok (.ireturn, 1) := by decide +kernel
theorem dX9_passes_25 : decode cX9_passes 25 = .ok (.iconst 0, 1) := by decide +kernel
theorem dX9_passes_26 : decode cX9_passes 26 = .ok (.istore_n 2, 1) := by decide +kernel
theorem dX9_passes_27 : decode cX9_passes 27 = .ok (.iload_n 2, 1) := by decide +kernel
theorem dX9_passes_28 : decode cX9_passes 28 = .ok (.aload_n 1, 1) := by decide +kernel
theorem dX9_passes_29 : decode cX9_passes 29 = .ok (.invokevirtual 229, 3) := by decide +kernel
theorem dX9_passes_32 : decode cX9_passes 32 = .ok (.if_icmp .ge 30, 3) := by decide +kernel
theorem dX9_passes_35 : decode cX9_passes 35 = .ok (.aload_n 0, 1) := by decide +kernel
theorem dX9_passes_36 : decode cX9_passes 36 = .ok (.getfield 69, 3) := by decide +kernel
theorem dX9_passes_39 : decode cX9_passes 39 = .ok (.aload_n 0, 1) := by decide +kernel
theorem dX9_passes_40 : decode cX9_passes 40 = .ok (.getfield 209, 3) := by decide +kernel
theorem dX9_passes_43 : decode cX9_passes 43 = .ok (.iload_n 2, 1) := by decide +kernel
theorem dX9_passes_44 : decode cX9_passes 44 = .ok (.iadd, 1) := by decide +kernel
theorem dX9_passes_45 : decode cX9_passes 45 = .ok (.baload, 1) := by decide +kernel
theorem dX9_passes_46 : decode cX9_passes 46 = .ok (.aload_n 1, 1) := by decide +kernel
theorem dX9_passes_47 : decode cX9_passes 47 = .ok (.iload_n 2, 1) := by decide +kernel
theorem dX9_passes_48 : decode cX9_passes 48 = .ok (.invokevirtual 234, 3) := by decide +kernel
theorem dX9_passes_51 : decode cX9_passes 51 = .ok (.if_icmp .eq 5, 3) := by decide +kernel
theorem dX9_passes_54 : decode cX9_passes 54 = .ok (.iconst 0, 1) := by decide +kernel
theorem dX9_passes_55 : decode cX9_passes 55 = .ok (.ireturn, 1) := by decide +kernel
theorem dX9_passes_56 : decode cX9_passes 56 = .ok (.iinc 2 1, 3) := by decide +kernel
theorem dX9_passes_59 : decode cX9_passes 59 = .ok (.goto (-32), 3) := by decide +kernel
theorem dX9_passes_62 : decode cX9_passes 62 = .ok (.aload_n 0, 1) := by decide +kernel
theorem dX9_passes_63 : decode cX9_passes 63 = .ok (.aload_n 0, 1) := by decide +kernel
theorem dX9_passes_64 : decode cX9_passes 64 = .ok (.getfield 209, 3) := by decide +kernel
theorem dX9_passes_67 : decode cX9_passes 67 = .ok (.putfield 238, 3) := by decide +kernel
theorem dX9_passes_70 : decode cX9_passes 70 = .ok (.aload_n 0, 1) := by decide +kernel
theorem dX9_passes_71 : decode cX9_passes 71 = .ok (.dup, 1) := by decide +kernel
theorem dX9_passes_72 : decode cX9_passes 72 = .ok (.getfield 209, 3) := by decide +kernel
theorem dX9_passes_75 : decode cX9_passes 75 = .ok (.aload_n 1, 1) := by decide +kernel
theorem dX9_passes_76 : decode cX9_passes 76 = .ok (.invokevirtual 229, 3) := by decide +kernel
theorem dX9_passes_79 : decode cX9_passes 79 = .ok (.iadd, 1) := by decide +kernel
theorem dX9_passes_80 : decode cX9_passes 80 = .ok (.putfield 209, 3) := by decide +kernel
theorem dX9_passes_83 : decode cX9_passes 83 = .ok (.iconst 1, 1) := by decide +kernel
theorem dX9_passes_84 : decode cX9_passes 84 = .ok (.ireturn, 1) := by decide +kernel
theorem dX9_must_0 : decode cX9_must 0 = .ok (.aload_n 0, 1) := by decide +kernel
theorem dX9_must_1 : decode cX9_must 1 = .ok (.iload_n 1, 1) := by decide +kernel
theorem dX9_must_2 : decode cX9_must 2 = .ok (.invokevirtual 241, 3) := by decide +kernel
theorem dX9_must_5 : decode cX9_must 5 = .ok (.ifCond .eq 16, 3) := by decide +kernel
theorem dX9_must_8 : decode cX9_must 8 = .ok (.aload_n 0, 1) := by decide +kernel
theorem dX9_must_9 : decode cX9_must 9 = .ok (.dup, 1) := by decide +kernel
theorem dX9_must_10 : decode cX9_must 10 = .ok (.getfield 209, 3) := by decide +kernel
theorem dX9_must_13 : decode cX9_must 13 = .ok (.iconst 1, 1) := by decide +kernel
theorem dX9_must_14 : decode cX9_must 14 = .ok (.iadd, 1) := by decide +kernel
theorem dX9_must_15 : decode cX9_must 15 = .ok (.putfield 209, 3) := by decide +kernel
theorem dX9_must_18 : decode cX9_must 18 = .ok (.goto 12, 3) := by decide +kernel
theorem dX9_must_21 : decode cX9_must 21 = .ok (.aload_n 0, 1) := by decide +kernel
theorem dX9_must_22 : decode cX9_must 22 = .ok (.iconst 1, 1) := by decide +kernel
theorem dX9_must_23 : decode cX9_must 23 = .ok (.aload_n 0, 1) := by decide +kernel
theorem dX9_must_24 : decode cX9_must 24 = .ok (.getfield 209, 3) := by decide +kernel
theorem dX9_must_27 : decode cX9_must 27 = .ok (.invokevirtual 244, 3) := by decide +kernel
theorem dX9_must_30 : decode cX9_must 30 = .ok (.return_, 1) := by decide +kernel
theorem dX9_number_0 : decode cX9_number 0 = .ok (.aload_n 0, 1) := by decide +kernel
theorem dX9_number_1 : decode cX9_number 1 = .ok (.invokevirtual 247, 3) := by decide +kernel
theorem dX9_number_4 : decode cX9_number 4 = .ok (.ifCond .ne 19, 3) := by decide +kernel
theorem dX9_number_7 : decode cX9_number 7 = .ok (.aload_n 0, 1) := by decide +kernel
theorem dX9_number_8 : decode cX9_number 8 = .ok (.invokevirtual 214, 3) := by decide +kernel
theorem dX9_number_11 : decode cX9_number 11 = .ok (.pop, 1) := by decide +kernel
theorem dX9_number_12 : decode cX9_number 12 = .ok (.aload_n 0, 1) := by decide +kernel
theorem dX9_number_13 : decode cX9_number 13 = .ok (.iconst 1, 1) := by decide +kernel
theorem dX9_number_14 : decode cX9_number 14 = .ok (.aload_n 0, 1) := by decide +kernel
theorem dX9_number_15 : decode cX9_number 15 = .ok (.getfield 209, 3) := by decide +kernel
theorem dX9_number_18 : decode cX9_number 18 = .ok (.invokevirtual 244, 3) := by decide +kernel
theorem dX9_number_21 : decode cX9_number 21 = .ok (.iload_n 1, 1) := by decide +kernel
theorem dX9_number_22 : decode cX9_number 22 = .ok (.ireturn, 1) := by decide +kernel
theorem dX9_number_23 : decode cX9_number 23 = .ok (.aload_n 0, 1) := by decide +kernel
theorem dX9_number_24 : decode cX9_number 24 = .ok (.getfield 209, 3) := by decide +kernel
theorem dX9_number_27 : decode cX9_number 27 = .ok (.istore_n 3, 1) := by decide +kernel
theorem dX9_number_28 : decode cX9_number 28 = .ok (.iconst 0, 1) := by decide +kernel
theorem dX9_number_29 : decode cX9_number 29 = .ok (.istore 4, 2) := by decide +kernel
theorem dX9_number_31 : decode cX9_number 31 = .ok (.aload_n 0, 1) := by decide +kernel
theorem dX9_number_32 : decode cX9_number 32 = .ok (.getfield 209, 3) := by decide +kernel
theorem dX9_number_35 : decode cX9_number 35 = .ok (.aload_n 0, 1) := by decide +kernel
theorem dX9_number_36 : decode cX9_number 36 = .ok (.getfield 212, 3) := by decide +kernel
theorem dX9_number_39 : decode cX9_number 39 = .ok (.if_icmp .ge 69, 3) := by decide +kernel
theorem dX9_number_42 : decode cX9_number 42 = .ok (.aload_n 0, 1) := by decide +kernel
theorem dX9_number_43 : decode cX9_number 43 = .ok (.getfield 69, 3) := by decide +kernel
theorem dX9_number_46 : decode cX9_number 46 = .ok (.aload_n 0, 1) := by decide +kernel
theorem dX9_number_47 : decode cX9_number 47 = .ok (.getfield 209, 3) := by decide +kernel
theorem dX9_number_50 : decode cX9_number 50 = .ok (.baload, 1) := by decide +kernel
theorem dX9_number_51 : decode cX9_number 51 = .ok (.bipush 48, 2) := by decide +kernel
theorem dX9_number_53 : decode cX9_number 53 = .ok (.if_icmp .lt 55, 3) := by decide +kernel
theorem dX9_number_56 : decode cX9_number 56 = .ok (.aload_n 0, 1) := by decide +kernel
theorem dX9_number_57 : decode cX9_number 57 = .ok (.getfield 69, 3) := by decide +kernel
theorem dX9_number_60 : decode cX9_number 60 = .ok (.aload_n 0, 1) := by decide +kernel
theorem dX9_number_61 : decode cX9_number 61 = .ok (.getfield 209, 3) := by decide +kernel
theorem dX9_number_64 : decode cX9_number 64 = .ok (.baload, 1) := by decide +kernel
theorem dX9_number_65 : decode cX9_number 65 = .ok (.bipush 57, 2) := by decide +kernel
theorem dX9_number_67 : decode cX9_number 67 = .ok (.if_icmp .gt 41, 3) := by decide +kernel
theorem dX9_number_70 : decode cX9_number 70 = .ok (.bipush 10, 2) := by decide +kernel
theorem dX9_number_72 : decode cX9_number 72 = .ok (.iload 4, 2) := by decide +kernel
theorem dX9_number_74 : decode cX9_number 74 = .ok (.imul, 1) := by decide +kernel
theorem dX9_number_75 : decode cX9_number 75 = .ok (.aload_n 0, 1) := by decide +kernel
theorem dX9_number_76 : decode cX9_number 76 = .ok (.getfield 69, 3) := by decide +kernel
theorem dX9_number_79 : decode cX9_number 79 = .ok (.aload_n 0, 1) := by decide +kernel
theorem dX9_number_80 : decode cX9_number 80 = .ok (.getfield 209, 3) := by decide +kernel
theorem dX9_number_83 : decode cX9_number 83 = .ok (.baload, 1) := by decide +kernel
theorem dX9_number_84 : decode cX9_number 84 = .ok (.iadd, 1) := by decide +kernel
theorem dX9_number_85 : decode cX9_number 85 = .ok (.bipush 48, 2) := by decide +kernel
theorem dX9_number_87 : decode cX9_number 87 = .ok (.isub, 1) := by decide +kernel
theorem dX9_number_88 : decode cX9_number 88 = .ok (.ldc 250, 2) := by decide +kernel
theorem dX9_number_90 : decode cX9_number 90 = .ok (.invokestatic 144, 3) := by decide +kernel
theorem dX9_number_93 : decode cX9_number 93 = .ok (.istore 4, 2) := by decide +kernel
theorem dX9_number_95 : decode cX9_number 95 = .ok (.aload_n 0, 1) := by decide +kernel
theorem dX9_number_96 : decode cX9_number 96 = .ok (.dup, 1) := by decide +kernel
theorem dX9_number_97 : decode cX9_number 97 = .ok (.getfield 209, 3) := by decide +kernel
theorem dX9_number_100 : decode cX9_number 100 = .ok (.iconst 1, 1) := by decide +kernel
theorem dX9_number_101 : decode cX9_number 101 = .ok (.iadd, 1) := by decide +kernel
theorem dX9_number_102 : decode cX9_number 102 = .ok (.putfield 209, 3) := by decide +kernel
theorem dX9_number_105 : decode cX9_number 105 = .ok (.goto (-74), 3) := by decide +kernel
theorem dX9_number_108 : decode cX9_number 108 = .ok (.iload 4, 2) := by decide +kernel
theorem dX9_number_110 : decode cX9_number 110 = .ok (.iload_n 1, 1) := by decide +kernel
theorem dX9_number_111 : decode cX9_number 111 = .ok (.iload_n 2, 1) := by decide +kernel
theorem dX9_number_112 : decode cX9_number 112 = .ok (.invokestatic 251, 3) := by decide +kernel
theorem dX9_number_115 : decode cX9_number 115 = .ok (.ifCond .ne 9, 3) := by decide +kernel
theorem dX9_number_118 : decode cX9_number 118 = .ok (.aload_n 0, 1) := by decide +kernel
theorem dX9_number_119 : decode cX9_number 119 = .ok (.iconst 2, 1) := by decide +kernel
theorem dX9_number_120 : decode cX9_number 120 = .ok (.iload_n 3, 1) := by decide +kernel
theorem dX9_number_121 : decode cX9_number 121 = .ok (.invokevirtual 244, 3) := by decide +kernel
theorem dX9_number_124 : decode cX9_number 124 = .ok (.aload_n 0, 1) := by decide +kernel
theorem dX9_number_125 : decode cX9_number 125 = .ok (.getfield 203, 3) := by decide +kernel
theorem dX9_number_128 : decode cX9_number 128 = .ok (.ifCond .ne 8, 3) := by decide +kernel
theorem dX9_number_131 : decode cX9_number 131 = .ok (.iload 4, 2) := by decide +kernel
theorem dX9_number_133 : decode cX9_number 133 = .ok (.goto 4, 3) := by decide +kernel
theorem dX9_number_136 : decode cX9_number 136 = .ok (.iload_n 1, 1) := by decide +kernel
theorem dX9_number_137 : decode cX9_number 137 = .ok (.ireturn, 1) := by decide +kernel
theorem dX9_isName_0 : decode cX9_isName 0 = .ok (.iconst 0, 1) := by decide +kernel
theorem dX9_isName_1 : decode cX9_isName 1 = .ok (.istore 4, 2) := by decide +kernel
theorem dX9_isName_3 : decode cX9_isName 3 = .ok (.iload 4, 2) := by decide +kernel
theorem dX9_isName_5 : decode cX9_isName 5 = .ok (.bipush 7, 2) := by decide +kernel
theorem dX9_isName_7 : decode cX9_isName 7 = .ok (.if_icmp .ge 51, 3) := by decide +kernel
theorem dX9_isName_10 : decode cX9_isName 10 = .ok (.iload_n 2, 1) := by decide +kernel
theorem dX9_isName_11 : decode cX9_isName 11 = .ok (.iload 4, 2) := by decide +kernel
theorem dX9_isName_13 : decode cX9_isName 13 = .ok (.iadd, 1) := by decide +kernel
theorem dX9_isName_14 : decode cX9_isName 14 = .ok (.iload_n 3, 1) := by decide +kernel
theorem dX9_isName_15 : decode cX9_isName 15 = .ok (.if_icmp .ge 15, 3) := by decide +kernel
theorem dX9_isName_18 : decode cX9_isName 18 = .ok (.aload_n 0, 1) := by decide +kernel
theorem dX9_isName_19 : decode cX9_isName 19 = .ok (.getfield 69, 3) := by decide +kernel
theorem dX9_isName_22 : decode cX9_isName 22 = .ok (.iload_n 2, 1) := by decide +kernel
theorem dX9_isName_23 : decode cX9_isName 23 = .ok (.iload 4, 2) := by decide +kernel
theorem dX9_isName_25 : decode cX9_isName 25 = .ok (.iadd, 1) := by decide +kernel
theorem dX9_isName_26 : decode cX9_isName 26 = .ok (.baload, 1) := by decide +kernel
theorem dX9_isName_27 : decode cX9_isName 27 = .ok (.goto 4, 3) := by decide +kernel
theorem dX9_isName_30 : decode cX9_isName 30 = .ok (.iconst 0, 1) := by decide +kernel
theorem dX9_isName_31 : decode cX9_isName 31 = .ok (.istore 5, 2) := by decide +kernel
theorem dX9_isName_33 : decode cX9_isName 33 = .ok (.aload_n 0, 1) := by decide +kernel
theorem dX9_isName_34 : decode cX9_isName 34 = .ok (.getfield 72, 3) := by decide +kernel
theorem dX9_isName_37 : decode cX9_isName 37 = .ok (.bipush 7, 2) := by decide +kernel
theorem dX9_isName_39 : decode cX9_isName 39 = .ok (.iload_n 1, 1) := by decide +kernel
theorem dX9_isName_40 : decode cX9_isName 40 = .ok (.imul, 1) := by decide +kernel
theorem dX9_isName_41 : decode cX9_isName 41 = .ok (.iload 4, 2) := by decide +kernel
theorem dX9_isName_43 : decode cX9_isName 43 = .ok (.iadd, 1) := by decide +kernel
theorem dX9_isName_44 : decode cX9_isName 44 = .ok (.baload, 1) := by decide +kernel
theorem dX9_isName_45 : decode cX9_isName 45 = .ok (.iload 5, 2) := by decide +kernel
theorem dX9_isName_47 : decode cX9_isName 47 = .ok (.if_icmp .eq 5, 3) := by decide +kernel
theorem dX9_isName_50 : decode cX9_isName 50 = .ok (.iconst 0, 1) := by decide +kernel
theorem dX9_isName_51 : decode cX9_isName 51 = .ok (.ireturn, 1) := by decide +kernel
theorem dX9_isName_52 : decode cX9_isName 52 = .ok (.iinc 4 1, 3) := by decide +kernel
theorem dX9_isName_55 : decode cX9_isName 55 = .ok (.goto (-52), 3) := by decide +kernel
theorem dX9_isName_58 : decode cX9_isName 58 = .ok (.iconst 1, 1) := by decide +kernel
theorem dX9_isName_59 : decode cX9_isName 59 = .ok (.ireturn, 1) := by decide +kernel
theorem dX9_nameHere_0 : decode cX9_nameHere 0 = .ok (.aload_n 0, 1) := by decide +kernel
theorem dX9_nameHere_1 : decode cX9_nameHere 1 = .ok (.invokevirtual 222, 3) := by decide +kernel
theorem dX9_nameHere_4 : decode cX9_nameHere 4 = .ok (.ifCond .ne 22, 3) := by decide +kernel
theorem dX9_nameHere_7 : decode cX9_nameHere 7 = .ok (.aload_n 0, 1) := by decide +kernel
theorem dX9_nameHere_8 : decode cX9_nameHere 8 = .ok (.invokevirtual 214, 3) := by decide +kernel
theorem dX9_nameHere_11 : decode cX9_nameHere 11 = .ok (.pop, 1) := by decide +kernel
theorem dX9_nameHere_12 : decode cX9_nameHere 12 = .ok (.aload_n 0, 1) := by decide +kernel
theorem dX9_nameHere_13 : decode cX9_nameHere 13 = .ok (.iconst 1, 1) := by decide +kernel
theorem dX9_nameHere_14 : decode cX9_nameHere 14 = .ok (.aload_n 0, 1) := by decide +kernel
theorem dX9_nameHere_15 : decode cX9_nameHere 15 = .ok (.getfield 209, 3) := by decide +kernel
theorem dX9_nameHere_18 : decode cX9_nameHere 18 = .ok (.invokevirtual 244, 3) := by decide +kernel
theorem dX9_nameHere_21 : decode cX9_nameHere 21 = .ok (.aload_n 0, 1) := by decide +kernel
theorem dX9_nameHere_22 : decode cX9_nameHere 22 = .ok (.getfield 209, 3) := by decide +kernel
theorem dX9_nameHere_25 : decode cX9_nameHere 25 = .ok (.ireturn, 1) := by decide +kernel
theorem dX9_nameHere_26 : decode cX9_nameHere 26 = .ok (.aload_n 0, 1) := by decide +kernel
theorem dX9_nameHere_27 : decode cX9_nameHere 27 = .ok (.getfield 209, 3) := by decide +kernel
theorem dX9_nameHere_30 : decode cX9_nameHere 30 = .ok (.istore_n 1, 1) := by decide +kernel
theorem dX9_nameHere_31 : decode cX9_nameHere 31 = .ok (.aload_n 0, 1) := by decide +kernel
theorem dX9_nameHere_32 : decode cX9_nameHere 32 = .ok (.aload_n 0, 1) := by decide +kernel
theorem dX9_nameHere_33 : decode cX9_nameHere 33 = .ok (.invokevirtual 226, 3) := by decide +kernel
theorem dX9_nameHere_36 : decode cX9_nameHere 36 = .ok (.aload_n 0, 1) := by decide +kernel
theorem dX9_nameHere_37 : decode cX9_nameHere 37 = .ok (.getfield 209, 3) := by decide +kernel
theorem dX9_nameHere_40 : decode cX9_nameHere 40 = .ok (.isub, 1) := by decide +kernel
theorem dX9_nameHere_41 : decode cX9_nameHere 41 = .ok (.putfield 255, 3) := by decide +kernel
theorem dX9_nameHere_44 : decode cX9_nameHere 44 = .ok (.aload_n 0, 1) := by decide +kernel
theorem dX9_nameHere_45 : decode cX9_nameHere 45 = .ok (.getfield 255, 3) := by decide +kernel
theorem dX9_nameHere_48 : decode cX9_nameHere 48 = .ok (.bipush 6, 2) := by decide +kernel
theorem dX9_nameHere_50 : decode cX9_nameHere 50 = .ok (.if_icmp .le 9, 3) := by decide +kernel
theorem dX9_nameHere_53 : decode cX9_nameHere 53 = .ok (.aload_n 0, 1) := by decide +kernel
theorem dX9_nameHere_54 : decode cX9_nameHere 54 = .ok (.iconst 1, 1) := by decide +kernel
theorem dX9_nameHere_55 : decode cX9_nameHere 55 = .ok (.iload_n 1, 1) := by decide +kernel
theorem dX9_nameHere_56 : decode cX9_nameHere 56 = .ok (.invokevirtual 244, 3) := by decide +kernel
theorem dX9_nameHere_59 : decode cX9_nameHere 59 = .ok (.aload_n 0, 1) := by decide +kernel
theorem dX9_nameHere_60 : decode cX9_nameHere 60 = .ok (.iload_n 1, 1) := by decide +kernel
theorem dX9_nameHere_61 : decode cX9_nameHere 61 = .ok (.aload_n 0, 1) := by decide +kernel
theorem dX9_nameHere_62 : decode cX9_nameHere 62 = .ok (.getfield 255, 3) := by decide +kernel
theorem dX9_nameHere_65 : decode cX9_nameHere 65 = .ok (.iadd, 1) := by decide +kernel
theorem dX9_nameHere_66 : decode cX9_nameHere 66 = .ok (.putfield 209, 3) := by decide +kernel
theorem dX9_nameHere_69 : decode cX9_nameHere 69 = .ok (.iload_n 1, 1) := by decide +kernel
theorem dX9_nameHere_70 : decode cX9_nameHere 70 = .ok (.ireturn, 1) := by decide +kernel
theorem dX9_isAlike_0 : decode cX9_isAlike 0 = .ok (.iconst 0, 1) := by decide +kernel
theorem dX9_isAlike_1 : decode cX9_isAlike 1 = .ok (.istore 4, 2) := by decide +kernel
theorem dX9_isAlike_3 : decode cX9_isAlike 3 = .ok (.iload 4, 2) := by decide +kernel
theorem dX9_isAlike_5 : decode cX9_isAlike 5 = .ok (.iload_n 3, 1) := by decide +kernel
theorem dX9_isAlike_6 : decode cX9_isAlike 6 = .ok (.if_icmp .ge 32, 3) := by decide +kernel
theorem dX9_isAlike_9 : decode cX9_isAlike 9 = .ok (.aload_n 0, 1) := by decide +kernel
theorem dX9_isAlike_10 : decode cX9_isAlike 10 = .ok (.getfield 69, 3) := by decide +kernel
theorem dX9_isAlike_13 : decode cX9_isAlike 13 = .ok (.iload_n 1, 1) := by decide +kernel
theorem dX9_isAlike_14 : decode cX9_isAlike 14 = .ok (.iload 4, 2) := by decide +kernel
theorem dX9_isAlike_16 : decode cX9_isAlike 16 = .ok (.iadd, 1) := by decide +kernel
theorem dX9_isAlike_17 : decode cX9_isAlike 17 = .ok (.baload, 1) := by decide +kernel
theorem dX9_isAlike_18 : decode cX9_isAlike 18 = .ok (.aload_n 0, 1) := by decide +kernel
theorem dX9_isAlike_19 : decode cX9_isAlike 19 = .ok (.getfield 69, 3) := by decide +kernel
theorem dX9_isAlike_22 : decode cX9_isAlike 22 = .ok (.iload_n 2, 1) := by decide +kernel
theorem dX9_isAlike_23 : decode cX9_isAlike 23 = .ok (.iload 4, 2) := by decide +kernel
theorem dX9_isAlike_25 : decode cX9_isAlike 25 = .ok (.iadd, 1) := by decide +kernel
theorem dX9_isAlike_26 : decode cX9_isAlike 26 = .ok (.baload, 1) := by decide +kernel
theorem dX9_isAlike_27 : decode cX9_isAlike 27 = .ok (.if_icmp .eq 5, 3) := by decide +kernel
theorem dX9_isAlike_30 : decode cX9_isAlike 30 = .ok (.iconst 0, 1) := by decide +kernel
theorem dX9_isAlike_31 : decode cX9_isAlike 31 = .ok (.ireturn, 1) := by decide +kernel
theorem dX9_isAlike_32 : decode cX9_isAlike 32 = .ok (.iinc 4 1, 3) := by decide +kernel
theorem dX9_isAlike_35 : decode cX9_isAlike 35 = .ok (.goto (-32), 3) := by decide +kernel
theorem dX9_isAlike_38 : decode cX9_isAlike 38 = .ok (.aload_n 0, 1) := by decide +kernel
theorem dX9_isAlike_39 : decode cX9_isAlike 39 = .ok (.iload_n 1, 1) := by decide +kernel
theorem dX9_isAlike_40 : decode cX9_isAlike 40 = .ok (.iload_n 3, 1) := by decide +kernel
theorem dX9_isAlike_41 : decode cX9_isAlike 41 = .ok (.iadd, 1) := by decide +kernel
theorem dX9_isAlike_42 : decode cX9_isAlike 42 = .ok (.invokevirtual 218, 3) := by decide +kernel
theorem dX9_isAlike_45 : decode cX9_isAlike 45 = .ok (.ifCond .ne 17, 3) := by decide +kernel
theorem dX9_isAlike_48 : decode cX9_isAlike 48 = .ok (.aload_n 0, 1) := by decide +kernel
theorem dX9_isAlike_49 : decode cX9_isAlike 49 = .ok (.iload_n 2, 1) := by decide +kernel
theorem dX9_isAlike_50 : decode cX9_isAlike 50 = .ok (.iload_n 3, 1) := by decide +kernel
theorem dX9_isAlike_51 : decode cX9_isAlike 51 = .ok (.iadd, 1) := by decide +kernel
theorem dX9_isAlike_52 : decode cX9_isAlike 52 = .ok (.invokevirtual 218, 3) := by decide +kernel
theorem dX9_isAlike_55 : decode cX9_isAlike 55 = .ok (.ifCond .ne 7, 3) := by decide +kernel
theorem dX9_isAlike_58 : decode cX9_isAlike 58 = .ok (.iconst 1, 1) := by decide +kernel
theorem dX9_isAlike_59 : decode cX9_isAlike 59 = .ok (.goto 4, 3) := by decide +kernel
theorem dX9_isAlike_62 : decode cX9_isAlike 62 = .ok (.iconst 0, 1) := by decide +kernel
theorem dX9_isAlike_63 : decode cX9_isAlike 63 = .ok (.ireturn, 1) := by decide +kernel
theorem dX9_isTwice_0 : decode cX9_isTwice 0 = .ok (.iconst 0, 1) := by decide +kernel
theorem dX9_isTwice_1 : decode cX9_isTwice 1 = .ok (.istore_n 2, 1) := by decide +kernel
theorem dX9_isTwice_2 : decode cX9_isTwice 2 = .ok (.iload_n 2, 1) := by decide +kernel
theorem dX9_isTwice_3 : decode cX9_isTwice 3 = .ok (.aload_n 0, 1) := by decide +kernel
theorem dX9_isTwice_4 : decode cX9_isTwice 4 = .ok (.getfield 258, 3) := by decide +kernel
theorem dX9_isTwice_7 : decode cX9_isTwice 7 = .ok (.if_icmp .ge 29, 3) := by decide +kernel
theorem dX9_isTwice_10 : decode cX9_isTwice 10 = .ok (.aload_n 0, 1) := by decide +kernel
theorem dX9_isTwice_11 : decode cX9_isTwice 11 = .ok (.aload_n 0, 1) := by decide +kernel
theorem dX9_isTwice_12 : decode cX9_isTwice 12 = .ok (.getfield 87, 3) := by decide +kernel
theorem dX9_isTwice_15 : decode cX9_isTwice 15 = .ok (.iload_n 2, 1) := by decide +kernel
theorem dX9_isTwice_16 : decode cX9_isTwice 16 = .ok (.iaload, 1) := by decide +kernel
theorem dX9_isTwice_17 : decode cX9_isTwice 17 = .ok (.iload_n 1, 1) := by decide +kernel
theorem dX9_isTwice_18 : decode cX9_isTwice 18 = .ok (.aload_n 0, 1) := by decide +kernel
theorem dX9_isTwice_19 : decode cX9_isTwice 19 = .ok (.getfield 255, 3) := by decide +kernel
theorem dX9_isTwice_22 : decode cX9_isTwice 22 = .ok (.invokevirtual 261, 3) := by decide +kernel
theorem dX9_isTwice_25 : decode cX9_isTwice 25 = .ok (.ifCond .eq 5, 3) := by decide +kernel
theorem dX9_isTwice_28 : decode cX9_isTwice 28 = .ok (.iconst 1, 1) := by decide +kernel
theorem dX9_isTwice_29 : decode cX9_isTwice 29 = .ok (.ireturn, 1) := by decide +kernel
theorem dX9_isTwice_30 : decode cX9_isTwice 30 = .ok (.iinc 2 1, 3) := by decide +kernel
theorem dX9_isTwice_33 : decode cX9_isTwice 33 = .ok (.goto (-31), 3) := by decide +kernel
theorem dX9_isTwice_36 : decode cX9_isTwice 36 = .ok (.iconst 0, 1) := by decide +kernel
theorem dX9_isTwice_37 : decode cX9_isTwice 37 = .ok (.ireturn, 1) := by decide +kernel
theorem dX9_keeps_0 : decode cX9_keeps 0 = .ok (.aload_n 0, 1) := by decide +kernel
theorem dX9_keeps_1 : decode cX9_keeps 1 = .ok (.getfield 258, 3) := by decide +kernel
theorem dX9_keeps_4 : decode cX9_keeps 4 = .ok (.bipush 8, 2) := by decide +kernel
theorem dX9_keeps_6 : decode cX9_keeps 6 = .ok (.if_icmp .ge 23, 3) := by decide +kernel
theorem dX9_keeps_9 : decode cX9_keeps 9 = .ok (.aload_n 0, 1) := by decide +kernel
theorem dX9_keeps_10 : decode cX9_keeps 10 = .ok (.getfield 87, 3) := by decide +kernel
theorem dX9_keeps_13 : decode cX9_keeps 13 = .ok (.aload_n 0, 1) := by decide +kernel
theorem dX9_keeps_14 : decode cX9_keeps 14 = .ok (.getfield 258, 3) := by decide +kernel
theorem dX9_keeps_17 : decode cX9_keeps 17 = .ok (.iload_n 1, 1) := by decide +kernel
theorem dX9_keeps_18 : decode cX9_keeps 18 = .ok (.iastore, 1) := by decide +kernel
theorem dX9_keeps_19 : decode cX9_keeps 19 = .ok (.aload_n 0, 1) := by decide +kernel
theorem dX9_keeps_20 : decode cX9_keeps 20 = .ok (.dup, 1) := by decide +kernel
theorem dX9_keeps_21 : decode cX9_keeps 21 = .ok (.getfield 258, 3) := by decide +kernel
theorem dX9_keeps_24 : decode cX9_keeps 24 = .ok (.iconst 1, 1) := by decide +kernel
theorem dX9_keeps_25 : decode cX9_keeps 25 = .ok (.iadd, 1) := by decide +kernel
theorem dX9_keeps_26 : decode cX9_keeps 26 = .ok (.putfield 258, 3) := by decide +kernel
theorem dX9_keeps_29 : decode cX9_keeps 29 = .ok (.return_, 1) := by decide +kernel
theorem dX9_fresh_0 : decode cX9_fresh 0 = .ok (.aload_n 0, 1) := by decide +kernel
theorem dX9_fresh_1 : decode cX9_fresh 1 = .ok (.invokevirtual 264, 3) := by decide +kernel
theorem dX9_fresh_4 : decode cX9_fresh 4 = .ok (.istore_n 2, 1) := by decide +kernel
theorem dX9_fresh_5 : decode cX9_fresh 5 = .ok (.iconst 0, 1) := by decide +kernel
theorem dX9_fresh_6 : decode cX9_fresh 6 = .ok (.istore_n 3, 1) := by decide +kernel
theorem dX9_fresh_7 : decode cX9_fresh 7 = .ok (.aload_n 0, 1) := by decide +kernel
theorem dX9_fresh_8 : decode cX9_fresh 8 = .ok (.getfield 203, 3) := by decide +kernel
theorem dX9_fresh_11 : decode cX9_fresh 11 = .ok (.ifCond .ne 81, 3) := by decide +kernel
theorem dX9_fresh_14 : decode cX9_fresh 14 = .ok (.iload_n 3, 1) := by decide +kernel
theorem dX9_fresh_15 : decode cX9_fresh 15 = .ok (.bipush 16, 2) := by decide +kernel
theorem dX9_fresh_17 : decode cX9_fresh 17 = .ok (.if_icmp .ge 75, 3) := by decide +kernel
theorem dX9_fresh_20 : decode cX9_fresh 20 = .ok (.iload_n 3, 1) := by decide +kernel
theorem dX9_fresh_21 : decode cX9_fresh 21 = .ok (.bipush 12, 2) := by decide +kernel
theorem dX9_fresh_23 : decode cX9_fresh 23 = .ok (.if_icmp .ge 19, 3) := by decide +kernel
theorem dX9_fresh_26 : decode cX9_fresh 26 = .ok (.iload_n 3, 1) := by decide +kernel
theorem dX9_fresh_27 : decode cX9_fresh 27 = .ok (.aload_n 0, 1) := by decide +kernel
theorem dX9_fresh_28 : decode cX9_fresh 28 = .ok (.getfield 267, 3) := by decide +kernel
theorem dX9_fresh_31 : decode cX9_fresh 31 = .ok (.if_icmp .ge 7, 3) := by decide +kernel
theorem dX9_fresh_34 : decode cX9_fresh 34 = .ok (.iconst 1, 1) := by decide +kernel
theorem dX9_fresh_35 : decode cX9_fresh 35 = .ok (.goto 23, 3) := by decide +kernel
theorem dX9_fresh_38 : decode cX9_fresh 38 = .ok (.iconst 0, 1) := by decide +kernel
theorem dX9_fresh_39 : decode cX9_fresh 39 = .ok (.goto 19, 3) := by decide +kernel
theorem dX9_fresh_42 : decode cX9_fresh 42 = .ok (.iload_n 3, 1) := by decide +kernel
theorem dX9_fresh_43 : decode cX9_fresh 43 = .ok (.bipush 12, 2) := by decide +kernel
theorem dX9_fresh_45 : decode cX9_fresh 45 = .ok (.isub, 1) := by decide +kernel
theorem dX9_fresh_46 : decode cX9_fresh 46 = .ok (.aload_n 0, 1) := by decide +kernel
theorem dX9_fresh_47 : decode cX9_fresh 47 = .ok (.getfield 270, 3) := by decide +kernel
theorem dX9_fresh_50 : decode cX9_fresh 50 = .ok (.if_icmp .ge 7, 3) := by decide +kernel
theorem dX9_fresh_53 : decode cX9_fresh 53 = .ok (.iconst 1, 1) := by decide +kernel
theorem dX9_fresh_54 : decode cX9_fresh 54 = .ok (.goto 4, 3) := by decide +kernel
theorem dX9_fresh_57 : decode cX9_fresh 57 = .ok (.iconst 0, 1) := by decide +kernel
theorem dX9_fresh_58 : decode cX9_fresh 58 = .ok (.istore 4, 2) := by decide +kernel
theorem dX9_fresh_60 : decode cX9_fresh 60 = .ok (.iload 4, 2) := by decide +kernel
theorem dX9_fresh_62 : decode cX9_fresh 62 = .ok (.ifCond .eq 24, 3) := by decide +kernel
theorem dX9_fresh_65 : decode cX9_fresh 65 = .ok (.aload_n 0, 1) := by decide +kernel
theorem dX9_fresh_66 : decode cX9_fresh 66 = .ok (.iload_n 3, 1) := by decide +kernel
theorem dX9_fresh_67 : decode cX9_fresh 67 = .ok (.iload_n 2, 1) := by decide +kernel
theorem dX9_fresh_68 : decode cX9_fresh 68 = .ok (.iload_n 2, 1) := by decide +kernel
theorem dX9_fresh_69 : decode cX9_fresh 69 = .ok (.aload_n 0, 1) := by decide +kernel
theorem dX9_fresh_70 : decode cX9_fresh 70 = .ok (.getfield 255, 3) := by decide +kernel
theorem dX9_fresh_73 : decode cX9_fresh 73 = .ok (.iadd, 1) := by decide +kernel
theorem dX9_fresh_74 : decode cX9_fresh 74 = .ok (.invokevirtual 273, 3) := by decide +kernel
theorem dX9_fresh_77 : decode cX9_fresh 77 = .ok (.ifCond .eq 9, 3) := by decide +kernel
theorem dX9_fresh_80 : decode cX9_fresh 80 = .ok (.aload_n 0, 1) := by decide +kernel
theorem dX9_fresh_81 : decode cX9_fresh 81 = .ok (.iconst 4, 1) := by decide +kernel
theorem dX9_fresh_82 : decode cX9_fresh 82 = .ok (.iload_n 2, 1) := by decide +kernel
theorem dX9_fresh_83 : decode cX9_fresh 83 = .ok (.invokevirtual 244, 3) := by decide +kernel
theorem dX9_fresh_86 : decode cX9_fresh 86 = .ok (.iinc 3 1, 3) := by decide +kernel
theorem dX9_fresh_89 : decode cX9_fresh 89 = .ok (.goto (-82), 3) := by decide +kernel
theorem dX9_fresh_92 : decode cX9_fresh 92 = .ok (.aload_n 0, 1) := by decide +kernel
theorem dX9_fresh_93 : decode cX9_fresh 93 = .ok (.getfield 203, 3) := by decide +kernel
theorem dX9_fresh_96 : decode cX9_fresh 96 = .ok (.ifCond .le 4, 3) := by decide +kernel
theorem dX9_fresh_99 : decode cX9_fresh 99 = .ok (.return_, 1) := by decide +kernel
theorem dX9_fresh_100 : decode cX9_fresh 100 = .ok (.aload_n 0, 1) := by decide +kernel
theorem dX9_fresh_101 : decode cX9_fresh 101 = .ok (.iload_n 2, 1) := by decide +kernel
theorem dX9_fresh_102 : decode cX9_fresh 102 = .ok (.invokevirtual 276, 3) := by decide +kernel
theorem dX9_fresh_105 : decode cX9_fresh 105 = .ok (.iconst 0, 1) := by decide +kernel
theorem dX9_fresh_106 : decode cX9_fresh 106 = .ok (.istore_n 3, 1) := by decide +kernel
theorem dX9_fresh_107 : decode cX9_fresh 107 = .ok (.iload_n 3, 1) := by decide +kernel
theorem dX9_fresh_108 : decode cX9_fresh 108 = .ok (.bipush 7, 2) := by decide +kernel
theorem dX9_fresh_110 : decode cX9_fresh 110 = .ok (.if_icmp .ge 40, 3) := by decide +kernel
theorem dX9_fresh_113 : decode cX9_fresh 113 = .ok (.aload_n 0, 1) := by decide +kernel
theorem dX9_fresh_114 : decode cX9_fresh 114 = .ok (.getfield 72, 3) := by decide +kernel
theorem dX9_fresh_117 : decode cX9_fresh 117 = .ok (.bipush 7, 2) := by decide +kernel
theorem dX9_fresh_119 : decode cX9_fresh 119 = .ok (.iload_n 1, 1) := by decide +kernel
theorem dX9_fresh_120 : decode cX9_fresh 120 = .ok (.imul, 1) := by decide +kernel
theorem dX9_fresh_121 : decode cX9_fresh 121 = .ok (.iload_n 3, 1) := by decide +kernel
theorem dX9_fresh_122 : decode cX9_fresh 122 = .ok (.iadd, 1) := by decide +kernel
theorem dX9_fresh_123 : decode cX9_fresh 123 = .ok (.iload_n 3, 1) := by decide +kernel
theorem dX9_fresh_124 : decode cX9_fresh 124 = .ok (.aload_n 0, 1) := by decide +kernel
theorem dX9_fresh_125 : decode cX9_fresh 125 = .ok (.getfield 255, 3) := by decide +kernel
theorem dX9_fresh_128 : decode cX9_fresh 128 = .ok (.if_icmp .ge 14, 3) := by decide +kernel
theorem dX9_fresh_131 : decode cX9_fresh 131 = .ok (.aload_n 0, 1) := by decide +kernel
theorem dX9_fresh_132 : decode cX9_fresh 132 = .ok (.getfield 69, 3) := by decide +kernel
theorem dX9_fresh_135 : decode cX9_fresh 135 = .ok (.iload_n 2, 1) := by decide +kernel
theorem dX9_fresh_136 : decode cX9_fresh 136 = .ok (.iload_n 3, 1) := by decide +kernel
theorem dX9_fresh_137 : decode cX9_fresh 137 = .ok (.iadd, 1) := by decide +kernel
theorem dX9_fresh_138 : decode cX9_fresh 138 = .ok (.baload, 1) := by decide +kernel
theorem dX9_fresh_139 : decode cX9_fresh 139 = .ok (.goto 4, 3) := by decide +kernel
theorem dX9_fresh_142 : decode cX9_fresh 142 = .ok (.iconst 0, 1) := by decide +kernel
theorem dX9_fresh_143 : decode cX9_fresh 143 = .ok (.bastore, 1) := by decide +kernel
theorem dX9_fresh_144 : decode cX9_fresh 144 = .ok (.iinc 3 1, 3) := by decide +kernel
theorem dX9_fresh_147 : decode cX9_fresh 147 = .ok (.goto (-40), 3) := by decide +kernel
theorem dX9_fresh_150 : decode cX9_fresh 150 = .ok (.return_, 1) := by decide +kernel
theorem dX9_known_0 : decode cX9_known 0 = .ok (.aload_n 0, 1) := by decide +kernel
theorem dX9_known_1 : decode cX9_known 1 = .ok (.invokevirtual 264, 3) := by decide +kernel
theorem dX9_known_4 : decode cX9_known 4 = .ok (.istore_n 2, 1) := by decide +kernel
theorem dX9_known_5 : decode cX9_known 5 = .ok (.aload_n 0, 1) := by decide +kernel
theorem dX9_known_6 : decode cX9_known 6 = .ok (.getfield 203, 3) := by decide +kernel
theorem dX9_known_9 : decode cX9_known 9 = .ok (.ifCond .ne 17, 3) := by decide +kernel
theorem dX9_known_12 : decode cX9_known 12 = .ok (.aload_n 0, 1) := by decide +kernel
theorem dX9_known_13 : decode cX9_known 13 = .ok (.iload_n 2, 1) := by decide +kernel
theorem dX9_known_14 : decode cX9_known 14 = .ok (.invokevirtual 279, 3) := by decide +kernel
theorem dX9_known_17 : decode cX9_known 17 = .ok (.ifCond .eq 9, 3) := by decide +kernel
theorem dX9_known_20 : decode cX9_known 20 = .ok (.aload_n 0, 1) := by decide +kernel
theorem dX9_known_21 : decode cX9_known 21 = .ok (.iconst 4, 1) := by decide +kernel
theorem dX9_known_22 : decode cX9_known 22 = .ok (.iload_n 2, 1) := by decide +kernel
theorem dX9_known_23 : decode cX9_known 23 = .ok (.invokevirtual 244, 3) := by decide +kernel
theorem dX9_known_26 : decode cX9_known 26 = .ok (.aload_n 0, 1) := by decide +kernel
theorem dX9_known_27 : decode cX9_known 27 = .ok (.getfield 203, 3) := by decide +kernel
theorem dX9_known_30 : decode cX9_known 30 = .ok (.ifCond .le 5, 3) := by decide +kernel
theorem dX9_known_33 : decode cX9_known 33 = .ok (.iconst 0, 1) := by decide +kernel
theorem dX9_known_34 : decode cX9_known 34 = .ok (.ireturn, 1) := by decide +kernel
theorem dX9_known_35 : decode cX9_known 35 = .ok (.aload_n 0, 1) := by decide +kernel
theorem dX9_known_36 : decode cX9_known 36 = .ok (.iload_n 2, 1) := by decide +kernel
theorem dX9_known_37 : decode cX9_known 37 = .ok (.invokevirtual 276, 3) := by decide +kernel
theorem dX9_known_40 : decode cX9_known 40 = .ok (.iload_n 1, 1) := by decide +kernel
theorem dX9_known_41 : decode cX9_known 41 = .ok (.ifCond .eq 10, 3) := by decide +kernel
theorem dX9_known_44 : decode cX9_known 44 = .ok (.aload_n 0, 1) := by decide +kernel
theorem dX9_known_45 : decode cX9_known 45 = .ok (.getfield 270, 3) := by decide +kernel
theorem dX9_known_48 : decode cX9_known 48 = .ok (.goto 7, 3) := by decide +kernel
theorem dX9_known_51 : decode cX9_known 51 = .ok (.aload_n 0, 1) := by decide +kernel
theorem dX9_known_52 : decode cX9_known 52 = .ok (.getfield 267, 3) := by decide +kernel
theorem dX9_known_55 : decode cX9_known 55 = .ok (.istore_n 3, 1) := by decide +kernel
theorem dX9_known_56 : decode cX9_known 56 = .ok (.iconst 0, 1) := by decide +kernel
theorem dX9_known_57 : decode cX9_known 57 = .ok (.istore 4, 2) := by decide +kernel
theorem dX9_known_59 : decode cX9_known 59 = .ok (.iload 4, 2) := by decide +kernel
theorem dX9_known_61 : decode cX9_known 61 = .ok (.iload_n 3, 1) := by decide +kernel
theorem dX9_known_62 : decode cX9_known 62 = .ok (.if_icmp .ge 40, 3) := by decide +kernel
theorem dX9_known_65 : decode cX9_known 65 = .ok (.aload_n 0, 1) := by decide +kernel
theorem dX9_known_66 : decode cX9_known 66 = .ok (.iload_n 1, 1) := by decide +kernel
theorem dX9_known_67 : decode cX9_known 67 = .ok (.ifCond .eq 11, 3) := by decide +kernel
theorem dX9_known_70 : decode cX9_known 70 = .ok (.bipush 12, 2) := by decide +kernel
theorem dX9_known_72 : decode cX9_known 72 = .ok (.iload 4, 2) := by decide +kernel
theorem dX9_known_74 : decode cX9_known 74 = .ok (.iadd, 1) := by decide +kernel
theorem dX9_known_75 : decode cX9_known 75 = .ok (.goto 5, 3) := by decide +kernel
theorem dX9_known_78 : decode cX9_known 78 = .ok (.iload 4, 2) := by decide +kernel
theorem dX9_known_80 : decode cX9_known 80 = .ok (.iload_n 2, 1) := by decide +kernel
theorem dX9_known_81 : decode cX9_known 81 = .ok (.iload_n 2, 1) := by decide +kernel
theorem dX9_known_82 : decode cX9_known 82 = .ok (.aload_n 0, 1) := by decide +kernel
theorem dX9_known_83 : decode cX9_known 83 = .ok (.getfield 255, 3) := by decide +kernel
theorem dX9_known_86 : decode cX9_known 86 = .ok (.iadd, 1) := by decide +kernel
theorem dX9_known_87 : decode cX9_known 87 = .ok (.invokevirtual 273, 3) := by decide +kernel
theorem dX9_known_90 : decode cX9_known 90 = .ok (.ifCond .eq 6, 3) := by decide +kernel
theorem dX9_known_93 : decode cX9_known 93 = .ok (.iload 4, 2) := by decide +kernel
theorem dX9_known_95 : decode cX9_known 95 = .ok (.ireturn, 1) := by decide +kernel
theorem dX9_known_96 : decode cX9_known 96 = .ok (.iinc 4 1, 3) := by decide +kernel
theorem dX9_known_99 : decode cX9_known 99 = .ok (.goto (-40), 3) := by decide +kernel
theorem dX9_known_102 : decode cX9_known 102 = .ok (.aload_n 0, 1) := by decide +kernel
theorem dX9_known_103 : decode cX9_known 103 = .ok (.iconst 5, 1) := by decide +kernel
theorem dX9_known_104 : decode cX9_known 104 = .ok (.iload_n 2, 1) := by decide +kernel
theorem dX9_known_105 : decode cX9_known 105 = .ok (.invokevirtual 244, 3) := by decide +kernel
theorem dX9_known_108 : decode cX9_known 108 = .ok (.iconst 0, 1) := by decide +kernel
theorem dX9_known_109 : decode cX9_known 109 = .ok (.ireturn, 1) := by decide +kernel
theorem dX9_setSample_0 : decode cX9_setSample 0 = .ok (.aload_n 0, 1) := by decide +kernel
theorem dX9_setSample_1 : decode cX9_setSample 1 = .ok (.getfield 20, 3) := by decide +kernel
theorem dX9_setSample_4 : decode cX9_setSample 4 = .ok (.bipush 123, 2) := by decide +kernel
theorem dX9_setSample_6 : decode cX9_setSample 6 = .ok (.bipush 15, 2) := by decide +kernel
theorem dX9_setSample_8 : decode cX9_setSample 8 = .ok (.aload_n 0, 1) := by decide +kernel
theorem dX9_setSample_9 : decode cX9_setSample 9 = .ok (.getfield 267, 3) := by decide +kernel
theorem dX9_setSample_12 : decode cX9_setSample 12 = .ok (.imul, 1) := by decide +kernel
theorem dX9_setSample_13 : decode cX9_setSample 13 = .ok (.iadd, 1) := by decide +kernel
theorem dX9_setSample_14 : decode cX9_setSample 14 = .ok (.iload_n 1, 1) := by decide +kernel
theorem dX9_setSample_15 : decode cX9_setSample 15 = .ok (.iadd, 1) := by decide +kernel
theorem dX9_setSample_16 : decode cX9_setSample 16 = .ok (.iload_n 2, 1) := by decide +kernel
theorem dX9_setSample_17 : decode cX9_setSample 17 = .ok (.iastore, 1) := by decide +kernel
theorem dX9_setSample_18 : decode cX9_setSample 18 = .ok (.return_, 1) := by decide +kernel
theorem dX9_curve_0 : decode cX9_curve 0 = .ok (.iconst 0, 1) := by decide +kernel
theorem dX9_curve_1 : decode cX9_curve 1 = .ok (.istore_n 1, 1) := by decide +kernel
theorem dX9_curve_2 : decode cX9_curve 2 = .ok (.iconst 1, 1) := by decide +kernel
theorem dX9_curve_3 : decode cX9_curve 3 = .ok (.istore_n 2, 1) := by decide +kernel
theorem dX9_curve_4 : decode cX9_curve 4 = .ok (.iload_n 2, 1) := by decide +kernel
theorem dX9_curve_5 : decode cX9_curve 5 = .ok (.ifCond .eq 125, 3) := by decide +kernel
theorem dX9_curve_8 : decode cX9_curve 8 = .ok (.aload_n 0, 1) := by decide +kernel
theorem dX9_curve_9 : decode cX9_curve 9 = .ok (.iload_n 1, 1) := by decide +kernel
theorem dX9_curve_10 : decode cX9_curve 10 = .ok (.ifCond .ne 7, 3) := by decide +kernel
theorem dX9_curve_13 : decode cX9_curve 13 = .ok (.iconst 0, 1) := by decide +kernel
theorem dX9_curve_14 : decode cX9_curve 14 = .ok (.goto 13, 3) := by decide +kernel
theorem dX9_curve_17 : decode cX9_curve 17 = .ok (.aload_n 0, 1) := by decide +kernel
theorem dX9_curve_18 : decode cX9_curve 18 = .ok (.getfield 75, 3) := by decide +kernel
theorem dX9_curve_21 : decode cX9_curve 21 = .ok (.iload_n 1, 1) := by decide +kernel
theorem dX9_curve_22 : decode cX9_curve 22 = .ok (.iconst 1, 1) := by decide +kernel
theorem dX9_curve_23 : decode cX9_curve 23 = .ok (.isub, 1) := by decide +kernel
theorem dX9_curve_24 : decode cX9_curve 24 = .ok (.iaload, 1) := by decide +kernel
theorem dX9_curve_25 : decode cX9_curve 25 = .ok (.iconst 1, 1) := by decide +kernel
theorem dX9_curve_26 : decode cX9_curve 26 = .ok (.iadd, 1) := by decide +kernel
theorem dX9_curve_27 : decode cX9_curve 27 = .ok (.sipush 999, 3) := by decide +kernel
theorem dX9_curve_30 : decode cX9_curve 30 = .ok (.invokevirtual 282, 3) := by decide +kernel
theorem dX9_curve_33 : decode cX9_curve 33 = .ok (.istore_n 3, 1) := by decide +kernel
theorem dX9_curve_34 : decode cX9_curve 34 = .ok (.aload_n 0, 1) := by decide +kernel
theorem dX9_curve_35 : decode cX9_curve 35 = .ok (.iconst 0, 1) := by decide +kernel
theorem dX9_curve_36 : decode cX9_curve 36 = .ok (.sipush 9999, 3) := by decide +kernel
theorem dX9_curve_39 : decode cX9_curve 39 = .ok (.invokevirtual 282, 3) := by decide +kernel
theorem dX9_curve_42 : decode cX9_curve 42 = .ok (.istore 4, 2) := by decide +kernel
theorem dX9_curve_44 : decode cX9_curve 44 = .ok (.aload_n 0, 1) := by decide +kernel
theorem dX9_curve_45 : decode cX9_curve 45 = .ok (.getfield 203, 3) := by decide +kernel
theorem dX9_curve_48 : decode cX9_curve 48 = .ok (.ifCond .le 4, 3) := by decide +kernel
theorem dX9_curve_51 : decode cX9_curve 51 = .ok (.return_, 1) := by decide +kernel
theorem dX9_curve_52 : decode cX9_curve 52 = .ok (.aload_n 0, 1) := by decide +kernel
theorem dX9_curve_53 : decode cX9_curve 53 = .ok (.getfield 75, 3) := by decide +kernel
theorem dX9_curve_56 : decode cX9_curve 56 = .ok (.iload_n 1, 1) := by decide +kernel
theorem dX9_curve_57 : decode cX9_curve 57 = .ok (.iload_n 3, 1) := by decide +kernel
theorem dX9_curve_58 : decode cX9_curve 58 = .ok (.iastore, 1) := by decide +kernel
theorem dX9_curve_59 : decode cX9_curve 59 = .ok (.aload_n 0, 1) := by decide +kernel
theorem dX9_curve_60 : decode cX9_curve 60 = .ok (.getfield 78, 3) := by decide +kernel
theorem dX9_curve_63 : decode cX9_curve 63 = .ok (.iload_n 1, 1) := by decide +kernel
theorem dX9_curve_64 : decode cX9_curve 64 = .ok (.iload 4, 2) := by decide +kernel
theorem dX9_curve_66 : decode cX9_curve 66 = .ok (.iastore, 1) := by decide +kernel
theorem dX9_curve_67 : decode cX9_curve 67 = .ok (.iinc 1 1, 3) := by decide +kernel
theorem dX9_curve_70 : decode cX9_curve 70 = .ok (.iload_n 1, 1) := by decide +kernel
theorem dX9_curve_71 : decode cX9_curve 71 = .ok (.iconst 2, 1) := by decide +kernel
theorem dX9_curve_72 : decode cX9_curve 72 = .ok (.if_icmp .lt 12, 3) := by decide +kernel
theorem dX9_curve_75 : decode cX9_curve 75 = .ok (.aload_n 0, 1) := by decide +kernel
theorem dX9_curve_76 : decode cX9_curve 76 = .ok (.bipush 44, 2) := by decide +kernel
theorem dX9_curve_78 : decode cX9_curve 78 = .ok (.invokevirtual 241, 3) := by decide +kernel
theorem dX9_curve_81 : decode cX9_curve 81 = .ok (.ifCond .eq 7, 3) := by decide +kernel
theorem dX9_curve_84 : decode cX9_curve 84 = .ok (.iconst 1, 1) := by decide +kernel
theorem dX9_curve_85 : decode cX9_curve 85 = .ok (.goto 4, 3) := by decide +kernel
theorem dX9_curve_88 : decode cX9_curve 88 = .ok (.iconst 0, 1) := by decide +kernel
theorem dX9_curve_89 : decode cX9_curve 89 = .ok (.istore_n 2, 1) := by decide +kernel
theorem dX9_curve_90 : decode cX9_curve 90 = .ok (.iload_n 2, 1) := by decide +kernel
theorem dX9_curve_91 : decode cX9_curve 91 = .ok (.ifCond .eq 18, 3) := by decide +kernel
theorem dX9_curve_94 : decode cX9_curve 94 = .ok (.iload_n 1, 1) := by decide +kernel
theorem dX9_curve_95 : decode cX9_curve 95 = .ok (.bipush 16, 2) := by decide +kernel
theorem dX9_curve_97 : decode cX9_curve 97 = .ok (.if_icmp .ne 12, 3) := by decide +kernel
theorem dX9_curve_100 : decode cX9_curve 100 = .ok (.aload_n 0, 1) := by decide +kernel
theorem dX9_curve_101 : decode cX9_curve 101 = .ok (.iconst 3, 1) := by decide +kernel
theorem dX9_curve_102 : decode cX9_curve 102 = .ok (.aload_n 0, 1) := by decide +kernel
theorem dX9_curve_103 : decode cX9_curve 103 = .ok (.getfield 209, 3) := by decide +kernel
theorem dX9_curve_106 : decode cX9_curve 106 = .ok (.invokevirtual 244, 3) := by decide +kernel
theorem dX9_curve_109 : decode cX9_curve 109 = .ok (.iload_n 2, 1) := by decide +kernel
theorem dX9_curve_110 : decode cX9_curve 110 = .ok (.ifCond .eq 9, 3) := by decide +kernel
theorem dX9_curve_113 : decode cX9_curve 113 = .ok (.aload_n 0, 1) := by decide +kernel
theorem dX9_curve_114 : decode cX9_curve 114 = .ok (.bipush 44, 2) := by decide +kernel
theorem dX9_curve_116 : decode cX9_curve 116 = .ok (.invokevirtual 285, 3) := by decide +kernel
theorem dX9_curve_119 : decode cX9_curve 119 = .ok (.aload_n 0, 1) := by decide +kernel
theorem dX9_curve_120 : decode cX9_curve 120 = .ok (.getfield 203, 3) := by decide +kernel
theorem dX9_curve_123 : decode cX9_curve 123 = .ok (.ifCond .le 4, 3) := by decide +kernel
theorem dX9_curve_126 : decode cX9_curve 126 = .ok (.return_, 1) := by decide +kernel
theorem dX9_curve_127 : decode cX9_curve 127 = .ok (.goto (-123), 3) := by decide +kernel
theorem dX9_curve_130 : decode cX9_curve 130 = .ok (.aload_n 0, 1) := by decide +kernel
theorem dX9_curve_131 : decode cX9_curve 131 = .ok (.iload_n 1, 1) := by decide +kernel
theorem dX9_curve_132 : decode cX9_curve 132 = .ok (.putfield 288, 3) := by decide +kernel
theorem dX9_curve_135 : decode cX9_curve 135 = .ok (.return_, 1) := by decide +kernel
theorem dX9_dated_0 : decode cX9_dated 0 = .ok (.aload_n 0, 1) := by decide +kernel
theorem dX9_dated_1 : decode cX9_dated 1 = .ok (.getfield 267, 3) := by decide +kernel
theorem dX9_dated_4 : decode cX9_dated 4 = .ok (.bipush 12, 2) := by decide +kernel
theorem dX9_dated_6 : decode cX9_dated 6 = .ok (.if_icmp .ne 12, 3) := by decide +kernel
theorem dX9_dated_9 : decode cX9_dated 9 = .ok (.aload_n 0, 1) := by decide +kernel
theorem dX9_dated_10 : decode cX9_dated 10 = .ok (.iconst 3, 1) := by decide +kernel
theorem dX9_dated_11 : decode cX9_dated 11 = .ok (.aload_n 0, 1) := by decide +kernel
theorem dX9_dated_12 : decode cX9_dated 12 = .ok (.getfield 238, 3) := by decide +kernel
theorem dX9_dated_15 : decode cX9_dated 15 = .ok (.invokevirtual 244, 3) := by decide +kernel
theorem dX9_dated_18 : decode cX9_dated 18 = .ok (.aload_n 0, 1) := by decide +kernel
theorem dX9_dated_19 : decode cX9_dated 19 = .ok (.getfield 203, 3) := by decide +kernel
theorem dX9_dated_22 : decode cX9_dated 22 = .ok (.ifCond .le 4, 3) := by decide +kernel
theorem dX9_dated_25 : decode cX9_dated 25 = .ok (.return_, 1) := by decide +kernel
theorem dX9_dated_26 : decode cX9_dated 26 = .ok (.aload_n 0, 1) := by decide +kernel
theorem dX9_dated_27 : decode cX9_dated 27 = .ok (.aload_n 0, 1) := by decide +kernel
theorem dX9_dated_28 : decode cX9_dated 28 = .ok (.getfield 267, 3) := by decide +kernel
theorem dX9_dated_31 : decode cX9_dated 31 = .ok (.invokevirtual 291, 3) := by decide +kernel
theorem dX9_dated_34 : decode cX9_dated 34 = .ok (.aload_n 0, 1) := by decide +kernel
theorem dX9_dated_35 : decode cX9_dated 35 = .ok (.iconst 0, 1) := by decide +kernel
theorem dX9_dated_36 : decode cX9_dated 36 = .ok (.iconst 0, 1) := by decide +kernel
theorem dX9_dated_37 : decode cX9_dated 37 = .ok (.invokevirtual 294, 3) := by decide +kernel
theorem dX9_dated_40 : decode cX9_dated 40 = .ok (.aload_n 0, 1) := by decide +kernel
theorem dX9_dated_41 : decode cX9_dated 41 = .ok (.iconst 1, 1) := by decide +kernel
theorem dX9_dated_42 : decode cX9_dated 42 = .ok (.aload_n 0, 1) := by decide +kernel
theorem dX9_dated_43 : decode cX9_dated 43 = .ok (.iconst 0, 1) := by decide +kernel
theorem dX9_dated_44 : decode cX9_dated 44 = .ok (.sipush 9999, 3) := by decide +kernel
theorem dX9_dated_47 : decode cX9_dated 47 = .ok (.invokevirtual 282, 3) := by decide +kernel
theorem dX9_dated_50 : decode cX9_dated 50 = .ok (.invokevirtual 294, 3) := by decide +kernel
theorem dX9_dated_53 : decode cX9_dated 53 = .ok (.aload_n 0, 1) := by decide +kernel
theorem dX9_dated_54 : decode cX9_dated 54 = .ok (.iconst 2, 1) := by decide +kernel
theorem dX9_dated_55 : decode cX9_dated 55 = .ok (.aload_n 0, 1) := by decide +kernel
theorem dX9_dated_56 : decode cX9_dated 56 = .ok (.iconst 0, 1) := by decide +kernel
theorem dX9_dated_57 : decode cX9_dated 57 = .ok (.sipush 999, 3) := by decide +kernel
theorem dX9_dated_60 : decode cX9_dated 60 = .ok (.invokevirtual 282, 3) := by decide +kernel
theorem dX9_dated_63 : decode cX9_dated 63 = .ok (.invokevirtual 294, 3) := by decide +kernel
theorem dX9_dated_66 : decode cX9_dated 66 = .ok (.aload_n 0, 1) := by decide +kernel
theorem dX9_dated_67 : decode cX9_dated 67 = .ok (.getfield 203, 3) := by decide +kernel
theorem dX9_dated_70 : decode cX9_dated 70 = .ok (.ifCond .ne 13, 3) := by decide +kernel
theorem dX9_dated_73 : decode cX9_dated 73 = .ok (.aload_n 0, 1) := by decide +kernel
theorem dX9_dated_74 : decode cX9_dated 74 = .ok (.dup, 1) := by decide +kernel
theorem dX9_dated_75 : decode cX9_dated 75 = .ok (.getfield 267, 3) := by decide +kernel
theorem dX9_dated_78 : decode cX9_dated 78 = .ok (.iconst 1, 1) := by decide +kernel
theorem dX9_dated_79 : decode cX9_dated 79 = .ok (.iadd, 1) := by decide +kernel
theorem dX9_dated_80 : decode cX9_dated 80 = .ok (.putfield 267, 3) := by decide +kernel
theorem dX9_dated_83 : decode cX9_dated 83 = .ok (.return_, 1) := by decide +kernel
theorem dX9_ringed_0 : decode cX9_ringed 0 = .ok (.aload_n 0, 1) := by decide +kernel
theorem dX9_ringed_1 : decode cX9_ringed 1 = .ok (.getfield 267, 3) := by decide +kernel
theorem dX9_ringed_4 : decode cX9_ringed 4 = .ok (.bipush 12, 2) := by decide +kernel
theorem dX9_ringed_6 : decode cX9_ringed 6 = .ok (.if_icmp .ne 12, 3) := by decide +kernel
theorem dX9_ringed_9 : decode cX9_ringed 9 = .ok (.aload_n 0, 1) := by decide +kernel
theorem dX9_ringed_10 : decode cX9_ringed 10 = .ok (.iconst 3, 1) := by decide +kernel
theorem dX9_ringed_11 : decode cX9_ringed 11 = .ok (.aload_n 0, 1) := by decide +kernel
theorem dX9_ringed_12 : decode cX9_ringed 12 = .ok (.getfield 238, 3) := by decide +kernel
theorem dX9_ringed_15 : decode cX9_ringed 15 = .ok (.invokevirtual 244, 3) := by decide +kernel
theorem dX9_ringed_18 : decode cX9_ringed 18 = .ok (.aload_n 0, 1) := by decide +kernel
theorem dX9_ringed_19 : decode cX9_ringed 19 = .ok (.getfield 203, 3) := by decide +kernel
theorem dX9_ringed_22 : decode cX9_ringed 22 = .ok (.ifCond .le 4, 3) := by decide +kernel
theorem dX9_ringed_25 : decode cX9_ringed 25 = .ok (.return_, 1) := by decide +kernel
theorem dX9_ringed_26 : decode cX9_ringed 26 = .ok (.aload_n 0, 1) := by decide +kernel
theorem dX9_ringed_27 : decode cX9_ringed 27 = .ok (.aload_n 0, 1) := by decide +kernel
theorem dX9_ringed_28 : decode cX9_ringed 28 = .ok (.getfield 267, 3) := by decide +kernel
theorem dX9_ringed_31 : decode cX9_ringed 31 = .ok (.invokevirtual 291, 3) := by decide +kernel
theorem dX9_ringed_34 : decode cX9_ringed 34 = .ok (.aload_n 0, 1) := by decide +kernel
theorem dX9_ringed_35 : decode cX9_ringed 35 = .ok (.iconst 0, 1) := by decide +kernel
theorem dX9_ringed_36 : decode cX9_ringed 36 = .ok (.iconst 1, 1) := by decide +kernel
theorem dX9_ringed_37 : decode cX9_ringed 37 = .ok (.invokevirtual 294, 3) := by decide +kernel
theorem dX9_ringed_40 : decode cX9_ringed 40 = .ok (.aload_n 0, 1) := by decide +kernel
theorem dX9_ringed_41 : decode cX9_ringed 41 = .ok (.iconst 1, 1) := by decide +kernel
theorem dX9_ringed_42 : decode cX9_ringed 42 = .ok (.aload_n 0, 1) := by decide +kernel
theorem dX9_ringed_43 : decode cX9_ringed 43 = .ok (.iconst 0, 1) := by decide +kernel
theorem dX9_ringed_44 : decode cX9_ringed 44 = .ok (.sipush 999, 3) := by decide +kernel
theorem dX9_ringed_47 : decode cX9_ringed 47 = .ok (.invokevirtual 282, 3) := by decide +kernel
theorem dX9_ringed_50 : decode cX9_ringed 50 = .ok (.invokevirtual 294, 3) := by decide +kernel
theorem dX9_ringed_53 : decode cX9_ringed 53 = .ok (.iconst 0, 1) := by decide +kernel
theorem dX9_ringed_54 : decode cX9_ringed 54 = .ok (.istore_n 1, 1) := by decide +kernel
theorem dX9_ringed_55 : decode cX9_ringed 55 = .ok (.iconst (-1), 1) := by decide +kernel
theorem dX9_ringed_56 : decode cX9_ringed 56 = .ok (.istore_n 2, 1) := by decide +kernel
theorem dX9_ringed_57 : decode cX9_ringed 57 = .ok (.aload_n 0, 1) := by decide +kernel
theorem dX9_ringed_58 : decode cX9_ringed 58 = .ok (.getfield 203, 3) := by decide +kernel
theorem dX9_ringed_61 : decode cX9_ringed 61 = .ok (.ifCond .ne 7, 3) := by decide +kernel
theorem dX9_ringed_64 : decode cX9_ringed 64 = .ok (.iconst 1, 1) := by decide +kernel
theorem dX9_ringed_65 : decode cX9_ringed 65 = .ok (.goto 4, 3) := by decide +kernel
theorem dX9_ringed_68 : decode cX9_ringed 68 = .ok (.iconst 0, 1) := by decide +kernel
theorem dX9_ringed_69 : decode cX9_ringed 69 = .ok (.istore_n 3, 1) := by decide +kernel
theorem dX9_ringed_70 : decode cX9_ringed 70 = .ok (.iload_n 3, 1) := by decide +kernel
theorem dX9_ringed_71 : decode cX9_ringed 71 = .ok (.ifCond .eq 105, 3) := by decide +kernel
theorem dX9_ringed_74 : decode cX9_ringed 74 = .ok (.aload_n 0, 1) := by decide +kernel
theorem dX9_ringed_75 : decode cX9_ringed 75 = .ok (.iload_n 2, 1) := by decide +kernel
theorem dX9_ringed_76 : decode cX9_ringed 76 = .ok (.iconst 1, 1) := by decide +kernel
theorem dX9_ringed_77 : decode cX9_ringed 77 = .ok (.iadd, 1) := by decide +kernel
theorem dX9_ringed_78 : decode cX9_ringed 78 = .ok (.sipush 300, 3) := by decide +kernel
theorem dX9_ringed_81 : decode cX9_ringed 81 = .ok (.invokevirtual 282, 3) := by decide +kernel
theorem dX9_ringed_84 : decode cX9_ringed 84 = .ok (.istore 4, 2) := by decide +kernel
theorem dX9_ringed_86 : decode cX9_ringed 86 = .ok (.aload_n 0, 1) := by decide +kernel
theorem dX9_ringed_87 : decode cX9_ringed 87 = .ok (.iconst 0, 1) := by decide +kernel
theorem dX9_ringed_88 : decode cX9_ringed 88 = .ok (.sipush 9999, 3) := by decide +kernel
theorem dX9_ringed_91 : decode cX9_ringed 91 = .ok (.invokevirtual 282, 3) := by decide +kernel
theorem dX9_ringed_94 : decode cX9_ringed 94 = .ok (.istore 5, 2) := by decide +kernel
theorem dX9_ringed_96 : decode cX9_ringed 96 = .ok (.aload_n 0, 1) := by decide +kernel
theorem dX9_ringed_97 : decode cX9_ringed 97 = .ok (.getfield 203, 3) := by decide +kernel
theorem dX9_ringed_100 : decode cX9_ringed 100 = .ok (.ifCond .le 4, 3) := by decide +kernel
theorem dX9_ringed_103 : decode cX9_ringed 103 = .ok (.return_, 1) := by decide +kernel
theorem dX9_ringed_104 : decode cX9_ringed 104 = .ok (.aload_n 0, 1) := by decide +kernel
theorem dX9_ringed_105 : decode cX9_ringed 105 = .ok (.iconst 3, 1) := by decide +kernel
theorem dX9_ringed_106 : decode cX9_ringed 106 = .ok (.iload_n 1, 1) := by decide +kernel
theorem dX9_ringed_107 : decode cX9_ringed 107 = .ok (.iadd, 1) := by decide +kernel
theorem dX9_ringed_108 : decode cX9_ringed 108 = .ok (.iload 4, 2) := by decide +kernel
theorem dX9_ringed_110 : decode cX9_ringed 110 = .ok (.invokevirtual 294, 3) := by decide +kernel
theorem dX9_ringed_113 : decode cX9_ringed 113 = .ok (.aload_n 0, 1) := by decide +kernel
theorem dX9_ringed_114 : decode cX9_ringed 114 = .ok (.bipush 9, 2) := by decide +kernel
theorem dX9_ringed_116 : decode cX9_ringed 116 = .ok (.iload_n 1, 1) := by decide +kernel
theorem dX9_ringed_117 : decode cX9_ringed 117 = .ok (.iadd, 1) := by decide +kernel
theorem dX9_ringed_118 : decode cX9_ringed 118 = .ok (.iload 5, 2) := by decide +kernel
theorem dX9_ringed_120 : decode cX9_ringed 120 = .ok (.invokevirtual 294, 3) := by decide +kernel
theorem dX9_ringed_123 : decode cX9_ringed 123 = .ok (.iload 4, 2) := by decide +kernel
theorem dX9_ringed_125 : decode cX9_ringed 125 = .ok (.istore_n 2, 1) := by decide +kernel
theorem dX9_ringed_126 : decode cX9_ringed 126 = .ok (.iinc 1 1, 3) := by decide +kernel
theorem dX9_ringed_129 : decode cX9_ringed 129 = .ok (.aload_n 0, 1) := by decide +kernel
theorem dX9_ringed_130 : decode cX9_ringed 130 = .ok (.bipush 44, 2) := by decide +kernel
theorem dX9_ringed_132 : decode cX9_ringed 132 = .ok (.invokevirtual 241, 3) := by decide +kernel
theorem dX9_ringed_135 : decode cX9_ringed 135 = .ok (.istore_n 3, 1) := by decide +kernel
theorem dX9_ringed_136 : decode cX9_ringed 136 = .ok (.iload_n 3, 1) := by decide +kernel
theorem dX9_ringed_137 : decode cX9_ringed 137 = .ok (.ifCond .eq 18, 3) := by decide +kernel
theorem dX9_ringed_140 : decode cX9_ringed 140 = .ok (.iload_n 1, 1) := by decide +kernel
theorem dX9_ringed_141 : decode cX9_ringed 141 = .ok (.bipush 6, 2) := by decide +kernel
theorem dX9_ringed_143 : decode cX9_ringed 143 = .ok (.if_icmp .ne 12, 3) := by decide +kernel
theorem dX9_ringed_146 : decode cX9_ringed 146 = .ok (.aload_n 0, 1) := by decide +kernel
theorem dX9_ringed_147 : decode cX9_ringed 147 = .ok (.iconst 3, 1) := by decide +kernel
theorem dX9_ringed_148 : decode cX9_ringed 148 = .ok (.aload_n 0, 1) := by decide +kernel
theorem dX9_ringed_149 : decode cX9_ringed 149 = .ok (.getfield 209, 3) := by decide +kernel
theorem dX9_ringed_152 : decode cX9_ringed 152 = .ok (.invokevirtual 244, 3) := by decide +kernel
theorem dX9_ringed_155 : decode cX9_ringed 155 = .ok (.iload_n 3, 1) := by decide +kernel
theorem dX9_ringed_156 : decode cX9_ringed 156 = .ok (.ifCond .eq 9, 3) := by decide +kernel
theorem dX9_ringed_159 : decode cX9_ringed 159 = .ok (.aload_n 0, 1) := by decide +kernel
theorem dX9_ringed_160 : decode cX9_ringed 160 = .ok (.bipush 44, 2) := by decide +kernel
theorem dX9_ringed_162 : decode cX9_ringed 162 = .ok (.invokevirtual 285, 3) := by decide +kernel
theorem dX9_ringed_165 : decode cX9_ringed 165 = .ok (.aload_n 0, 1) := by decide +kernel
theorem dX9_ringed_166 : decode cX9_ringed 166 = .ok (.getfield 203, 3) := by decide +kernel
theorem dX9_ringed_169 : decode cX9_ringed 169 = .ok (.ifCond .le 4, 3) := by decide +kernel
theorem dX9_ringed_172 : decode cX9_ringed 172 = .ok (.return_, 1) := by decide +kernel
theorem dX9_ringed_173 : decode cX9_ringed 173 = .ok (.goto (-103), 3) := by decide +kernel
theorem dX9_ringed_176 : decode cX9_ringed 176 = .ok (.aload_n 0, 1) := by decide +kernel
theorem dX9_ringed_177 : decode cX9_ringed 177 = .ok (.iconst 2, 1) := by decide +kernel
theorem dX9_ringed_178 : decode cX9_ringed 178 = .ok (.iload_n 1, 1) := by decide +kernel
theorem dX9_ringed_179 : decode cX9_ringed 179 = .ok (.invokevirtual 294, 3) := by decide +kernel
theorem dX9_ringed_182 : decode cX9_ringed 182 = .ok (.aload_n 0, 1) := by decide +kernel
theorem dX9_ringed_183 : decode cX9_ringed 183 = .ok (.getfield 203, 3) := by decide +kernel
theorem dX9_ringed_186 : decode cX9_ringed 186 = .ok (.ifCond .ne 13, 3) := by decide +kernel
theorem dX9_ringed_189 : decode cX9_ringed 189 = .ok (.aload_n 0, 1) := by decide +kernel
theorem dX9_ringed_190 : decode cX9_ringed 190 = .ok (.dup, 1) := by decide +kernel
theorem dX9_ringed_191 : decode cX9_ringed 191 = .ok (.getfield 267, 3) := by decide +kernel
theorem dX9_ringed_194 : decode cX9_ringed 194 = .ok (.iconst 1, 1) := by decide +kernel
theorem dX9_ringed_195 : decode cX9_ringed 195 = .ok (.iadd, 1) := by decide +kernel
theorem dX9_ringed_196 : decode cX9_ringed 196 = .ok (.putfield 267, 3) := by decide +kernel
theorem dX9_ringed_199 : decode cX9_ringed 199 = .ok (.return_, 1) := by decide +kernel
theorem dX9_lays__0 : decode cX9_lays_ 0 = .ok (.aload_n 0, 1) := by decide +kernel
theorem dX9_lays__1 : decode cX9_lays_ 1 = .ok (.getfield 203, 3) := by decide +kernel
theorem dX9_lays__4 : decode cX9_lays_ 4 = .ok (.ifCond .le 4, 3) := by decide +kernel
theorem dX9_lays__7 : decode cX9_lays_ 7 = .ok (.return_, 1) := by decide +kernel
theorem dX9_lays__8 : decode cX9_lays_ 8 = .ok (.iconst 3, 1) := by decide +kernel
theorem dX9_lays__9 : decode cX9_lays_ 9 = .ok (.iconst 5, 1) := by decide +kernel
theorem dX9_lays__10 : decode cX9_lays_ 10 = .ok (.aload_n 0, 1) := by decide +kernel
theorem dX9_lays__11 : decode cX9_lays_ 11 = .ok (.getfield 20, 3) := by decide +kernel
theorem dX9_lays__14 : decode cX9_lays_ 14 = .ok (.iconst 2, 1) := by decide +kernel
theorem dX9_lays__15 : decode cX9_lays_ 15 = .ok (.iaload, 1) := by decide +kernel
theorem dX9_lays__16 : decode cX9_lays_ 16 = .ok (.imul, 1) := by decide +kernel
theorem dX9_lays__17 : decode cX9_lays_ 17 = .ok (.iadd, 1) := by decide +kernel
theorem dX9_lays__18 : decode cX9_lays_ 18 = .ok (.istore 6, 2) := by decide +kernel
theorem dX9_lays__20 : decode cX9_lays_ 20 = .ok (.aload_n 0, 1) := by decide +kernel
theorem dX9_lays__21 : decode cX9_lays_ 21 = .ok (.getfield 20, 3) := by decide +kernel
theorem dX9_lays__24 : decode cX9_lays_ 24 = .ok (.iload 6, 2) := by decide +kernel
theorem dX9_lays__26 : decode cX9_lays_ 26 = .ok (.iload_n 1, 1) := by decide +kernel
theorem dX9_lays__27 : decode cX9_lays_ 27 = .ok (.iastore, 1) := by decide +kernel
theorem dX9_lays__28 : decode cX9_lays_ 28 = .ok (.aload_n 0, 1) := by decide +kernel
theorem dX9_lays__29 : decode cX9_lays_ 29 = .ok (.getfield 20, 3) := by decide +kernel
theorem dX9_lays__32 : decode cX9_lays_ 32 = .ok (.iload 6, 2) := by decide +kernel
theorem dX9_lays__34 : decode cX9_lays_ 34 = .ok (.iconst 1, 1) := by decide +kernel
theorem dX9_lays__35 : decode cX9_lays_ 35 = .ok (.iadd, 1) := by decide +kernel
theorem dX9_lays__36 : decode cX9_lays_ 36 = .ok (.iload_n 2, 1) := by decide +kernel
theorem dX9_lays__37 : decode cX9_lays_ 37 = .ok (.iastore, 1) := by decide +kernel
theorem dX9_lays__38 : decode cX9_lays_ 38 = .ok (.aload_n 0, 1) := by decide +kernel
theorem dX9_lays__39 : decode cX9_lays_ 39 = .ok (.getfield 20, 3) := by decide +kernel
theorem dX9_lays__42 : decode cX9_lays_ 42 = .ok (.iload 6, 2) := by decide +kernel
theorem dX9_lays__44 : decode cX9_lays_ 44 = .ok (.iconst 2, 1) := by decide +kernel
theorem dX9_lays__45 : decode cX9_lays_ 45 = .ok (.iadd, 1) := by decide +kernel
theorem dX9_lays__46 : decode cX9_lays_ 46 = .ok (.iload_n 3, 1) := by decide +kernel
theorem dX9_lays__47 : decode cX9_lays_ 47 = .ok (.iastore, 1) := by decide +kernel
theorem dX9_lays__48 : decode cX9_lays_ 48 = .ok (.aload_n 0, 1) := by decide +kernel
theorem dX9_lays__49 : decode cX9_lays_ 49 = .ok (.getfield 20, 3) := by decide +kernel
theorem dX9_lays__52 : decode cX9_lays_ 52 = .ok (.iload 6, 2) := by decide +kernel
theorem dX9_lays__54 : decode cX9_lays_ 54 = .ok (.iconst 3, 1) := by decide +kernel
theorem dX9_lays__55 : decode cX9_lays_ 55 = .ok (.iadd, 1) := by decide +kernel
theorem dX9_lays__56 : decode cX9_lays_ 56 = .ok (.iload 4, 2) := by decide +kernel
theorem dX9_lays__58 : decode cX9_lays_ 58 = .ok (.iastore, 1) := by decide +kernel
theorem dX9_lays__59 : decode cX9_lays_ 59 = .ok (.aload_n 0, 1) := by decide +kernel
theorem dX9_lays__60 : decode cX9_lays_ 60 = .ok (.getfield 20, 3) := by decide +kernel
theorem dX9_lays__63 : decode cX9_lays_ 63 = .ok (.iload 6, 2) := by decide +kernel
theorem dX9_lays__65 : decode cX9_lays_ 65 = .ok (.iconst 4, 1) := by decide +kernel
theorem dX9_lays__66 : decode cX9_lays_ 66 = .ok (.iadd, 1) := by decide +kernel
theorem dX9_lays__67 : decode cX9_lays_ 67 = .ok (.iload 5, 2) := by decide +kernel
theorem dX9_lays__69 : decode cX9_lays_ 69 = .ok (.iastore, 1) := by decide +kernel
theorem dX9_lays__70 : decode cX9_lays_ 70 = .ok (.aload_n 0, 1) := by decide +kernel
theorem dX9_lays__71 : decode cX9_lays_ 71 = .ok (.getfield 20, 3) := by decide +kernel
theorem dX9_lays__74 : decode cX9_lays_ 74 = .ok (.iconst 2, 1) := by decide +kernel
theorem dX9_lays__75 : decode cX9_lays_ 75 = .ok (.dup2, 1) := by decide +kernel
theorem dX9_lays__76 : decode cX9_lays_ 76 = .ok (.iaload, 1) := by decide +kernel
theorem dX9_lays__77 : decode cX9_lays_ 77 = .ok (.iconst 1, 1) := by decide +kernel
theorem dX9_lays__78 : decode cX9_lays_ 78 = .ok (.iadd, 1) := by decide +kernel
theorem dX9_lays__79 : decode cX9_lays_ 79 = .ok (.iastore, 1) := by decide +kernel
theorem dX9_lays__80 : decode cX9_lays_ 80 = .ok (.return_, 1) := by decide +kernel
theorem dX9_isRuleWord_0 : decode cX9_isRuleWord 0 = .ok (.aload_n 0, 1) := by decide +kernel
theorem dX9_isRuleWord_1 : decode cX9_isRuleWord 1 = .ok (.aload_n 1, 1) := by decide +kernel
theorem dX9_isRuleWord_2 : decode cX9_isRuleWord 2 = .ok (.invokevirtual 297, 3) := by decide +kernel
theorem dX9_isRuleWord_5 : decode cX9_isRuleWord 5 = .ok (.ifCond .ne 5, 3) := by decide +kernel
theorem dX9_isRuleWord_8 : decode cX9_isRuleWord 8 = .ok (.iconst 0, 1) := by decide +kernel
theorem dX9_isRuleWord_9 : decode cX9_isRuleWord 9 = .ok (.ireturn, 1) := by decide +kernel
theorem dX9_isRuleWord_10 : decode cX9_isRuleWord 10 = .ok (.aload_n 0, 1) := by decide +kernel
theorem dX9_isRuleWord_11 : decode cX9_isRuleWord 11 = .ok (.getfield 20, 3) := by decide +kernel
theorem dX9_isRuleWord_14 : decode cX9_isRuleWord 14 = .ok (.iconst 2, 1) := by decide +kernel
theorem dX9_isRuleWord_15 : decode cX9_isRuleWord 15 = .ok (.iaload, 1) := by decide +kernel
theorem dX9_isRuleWord_16 : decode cX9_isRuleWord 16 = .ok (.bipush 24, 2) := by decide +kernel
theorem dX9_isRuleWord_18 : decode cX9_isRuleWord 18 = .ok (.if_icmp .ne 12, 3) := by decide +kernel
theorem dX9_isRuleWord_21 : decode cX9_isRuleWord 21 = .ok (.aload_n 0, 1) := by decide +kernel
theorem dX9_isRuleWord_22 : decode cX9_isRuleWord 22 = .ok (.iconst 3, 1) := by decide +kernel
theorem dX9_isRuleWord_23 : decode cX9_isRuleWord 23 = .ok (.aload_n 0, 1) := by decide +kernel
theorem dX9_isRuleWord_24 : decode cX9_isRuleWord 24 = .ok (.getfield 238, 3) := by decide +kernel
theorem dX9_isRuleWord_27 : decode cX9_isRuleWord 27 = .ok (.invokevirtual 244, 3) := by decide +kernel
theorem dX9_isRuleWord_30 : decode cX9_isRuleWord 30 = .ok (.iconst 1, 1) := by decide +kernel
theorem dX9_isRuleWord_31 : decode cX9_isRuleWord 31 = .ok (.ireturn, 1) := by decide +kernel
theorem dX9_beforeLine_0 : decode cX9_beforeLine 0 = .ok (.aload_n 0, 1) := by decide +kernel
theorem dX9_beforeLine_1 : decode cX9_beforeLine 1 = .ok (.iconst 0, 1) := by decide +kernel
theorem dX9_beforeLine_2 : decode cX9_beforeLine 2 = .ok (.invokevirtual 301, 3) := by decide +kernel
theorem dX9_beforeLine_5 : decode cX9_beforeLine 5 = .ok (.istore_n 1, 1) := by decide +kernel
theorem dX9_beforeLine_6 : decode cX9_beforeLine 6 = .ok (.aload_n 0, 1) := by decide +kernel
theorem dX9_beforeLine_7 : decode cX9_beforeLine 7 = .ok (.iconst 0, 1) := by decide +kernel
theorem dX9_beforeLine_8 : decode cX9_beforeLine 8 = .ok (.invokevirtual 301, 3) := by decide +kernel
theorem dX9_beforeLine_11 : decode cX9_beforeLine 11 = .ok (.istore_n 2, 1) := by decide +kernel
theorem dX9_beforeLine_12 : decode cX9_beforeLine 12 = .ok (.aload_n 0, 1) := by decide +kernel
theorem dX9_beforeLine_13 : decode cX9_beforeLine 13 = .ok (.invokevirtual 247, 3) := by decide +kernel
theorem dX9_beforeLine_16 : decode cX9_beforeLine 16 = .ok (.ifCond .eq 14, 3) := by decide +kernel
theorem dX9_beforeLine_19 : decode cX9_beforeLine 19 = .ok (.aload_n 0, 1) := by decide +kernel
theorem dX9_beforeLine_20 : decode cX9_beforeLine 20 = .ok (.iconst 0, 1) := by decide +kernel
theorem dX9_beforeLine_21 : decode cX9_beforeLine 21 = .ok (.sipush 999, 3) := by decide +kernel
theorem dX9_beforeLine_24 : decode cX9_beforeLine 24 = .ok (.invokevirtual 282, 3) := by decide +kernel
theorem dX9_beforeLine_27 : decode cX9_beforeLine 27 = .ok (.goto 4, 3) := by decide +kernel
theorem dX9_beforeLine_30 : decode cX9_beforeLine 30 = .ok (.iconst 0, 1) := by decide +kernel
theorem dX9_beforeLine_31 : decode cX9_beforeLine 31 = .ok (.istore_n 3, 1) := by decide +kernel
theorem dX9_beforeLine_32 : decode cX9_beforeLine 32 = .ok (.aload_n 0, 1) := by decide +kernel
theorem dX9_beforeLine_33 : decode cX9_beforeLine 33 = .ok (.invokevirtual 247, 3) := by decide +kernel
theorem dX9_beforeLine_36 : decode cX9_beforeLine 36 = .ok (.ifCond .eq 14, 3) := by decide +kernel
theorem dX9_beforeLine_39 : decode cX9_beforeLine 39 = .ok (.aload_n 0, 1) := by decide +kernel
theorem dX9_beforeLine_40 : decode cX9_beforeLine 40 = .ok (.iload_n 3, 1) := by decide +kernel
theorem dX9_beforeLine_41 : decode cX9_beforeLine 41 = .ok (.sipush 999, 3) := by decide +kernel
theorem dX9_beforeLine_44 : decode cX9_beforeLine 44 = .ok (.invokevirtual 282, 3) := by decide +kernel
theorem dX9_beforeLine_47 : decode cX9_beforeLine 47 = .ok (.goto 6, 3) := by decide +kernel
theorem dX9_beforeLine_50 : decode cX9_beforeLine 50 = .ok (.sipush 999, 3) := by decide +kernel
theorem dX9_beforeLine_53 : decode cX9_beforeLine 53 = .ok (.istore 4, 2) := by decide +kernel
theorem dX9_beforeLine_55 : decode cX9_beforeLine 55 = .ok (.aload_n 0, 1) := by decide +kernel
theorem dX9_beforeLine_56 : decode cX9_beforeLine 56 = .ok (.iconst 0, 1) := by decide +kernel
theorem dX9_beforeLine_57 : decode cX9_beforeLine 57 = .ok (.iload_n 1, 1) := by decide +kernel
theorem dX9_beforeLine_58 : decode cX9_beforeLine 58 = .ok (.iload_n 2, 1) := by decide +kernel
theorem dX9_beforeLine_59 : decode cX9_beforeLine 59 = .ok (.iload_n 3, 1) := by decide +kernel
theorem dX9_beforeLine_60 : decode cX9_beforeLine 60 = .ok (.iload 4, 2) := by decide +kernel
theorem dX9_beforeLine_62 : decode cX9_beforeLine 62 = .ok (.invokevirtual 305, 3) := by decide +kernel
theorem dX9_beforeLine_65 : decode cX9_beforeLine 65 = .ok (.return_, 1) := by decide +kernel
theorem dX9_phaseLine_0 : decode cX9_phaseLine 0 = .ok (.aload_n 0, 1) := by decide +kernel
theorem dX9_phaseLine_1 : decode cX9_phaseLine 1 = .ok (.getfield 270, 3) := by decide +kernel
theorem dX9_phaseLine_4 : decode cX9_phaseLine 4 = .ok (.iconst 4, 1) := by decide +kernel
theorem dX9_phaseLine_5 : decode cX9_phaseLine 5 = .ok (.if_icmp .ne 12, 3) := by decide +kernel
theorem dX9_phaseLine_8 : decode cX9_phaseLine 8 = .ok (.aload_n 0, 1) := by decide +kernel
theorem dX9_phaseLine_9 : decode cX9_phaseLine 9 = .ok (.iconst 3, 1) := by decide +kernel
theorem dX9_phaseLine_10 : decode cX9_phaseLine 10 = .ok (.aload_n 0, 1) := by decide +kernel
theorem dX9_phaseLine_11 : decode cX9_phaseLine 11 = .ok (.getfield 238, 3) := by decide +kernel
theorem dX9_phaseLine_14 : decode cX9_phaseLine 14 = .ok (.invokevirtual 244, 3) := by decide +kernel
theorem dX9_phaseLine_17 : decode cX9_phaseLine 17 = .ok (.aload_n 0, 1) := by decide +kernel
theorem dX9_phaseLine_18 : decode cX9_phaseLine 18 = .ok (.getfield 203, 3) := by decide +kernel
theorem dX9_phaseLine_21 : decode cX9_phaseLine 21 = .ok (.ifCond .le 4, 3) := by decide +kernel
theorem dX9_phaseLine_24 : decode cX9_phaseLine 24 = .ok (.return_, 1) := by decide +kernel
theorem dX9_phaseLine_25 : decode cX9_phaseLine 25 = .ok (.aload_n 0, 1) := by decide +kernel
theorem dX9_phaseLine_26 : decode cX9_phaseLine 26 = .ok (.bipush 12, 2) := by decide +kernel
theorem dX9_phaseLine_28 : decode cX9_phaseLine 28 = .ok (.aload_n 0, 1) := by decide +kernel
theorem dX9_phaseLine_29 : decode cX9_phaseLine 29 = .ok (.getfield 270, 3) := by decide +kernel
theorem dX9_phaseLine_32 : decode cX9_phaseLine 32 = .ok (.iadd, 1) := by decide +kernel
theorem dX9_phaseLine_33 : decode cX9_phaseLine 33 = .ok (.invokevirtual 291, 3) := by decide +kernel
theorem dX9_phaseLine_36 : decode cX9_phaseLine 36 = .ok (.iconst 0, 1) := by decide +kernel
theorem dX9_phaseLine_37 : decode cX9_phaseLine 37 = .ok (.istore_n 1, 1) := by decide +kernel
theorem dX9_phaseLine_38 : decode cX9_phaseLine 38 = .ok (.iload_n 1, 1) := by decide +kernel
theorem dX9_phaseLine_39 : decode cX9_phaseLine 39 = .ok (.ifCond .eq 10, 3) := by decide +kernel
theorem dX9_phaseLine_42 : decode cX9_phaseLine 42 = .ok (.aload_n 0, 1) := by decide +kernel
theorem dX9_phaseLine_43 : decode cX9_phaseLine 43 = .ok (.invokevirtual 222, 3) := by decide +kernel
theorem dX9_phaseLine_46 : decode cX9_phaseLine 46 = .ok (.ifCond .eq 53, 3) := by decide +kernel
theorem dX9_phaseLine_49 : decode cX9_phaseLine 49 = .ok (.iload_n 1, 1) := by decide +kernel
theorem dX9_phaseLine_50 : decode cX9_phaseLine 50 = .ok (.bipush 6, 2) := by decide +kernel
theorem dX9_phaseLine_52 : decode cX9_phaseLine 52 = .ok (.if_icmp .ne 12, 3) := by decide +kernel
theorem dX9_phaseLine_55 : decode cX9_phaseLine 55 = .ok (.aload_n 0, 1) := by decide +kernel
theorem dX9_phaseLine_56 : decode cX9_phaseLine 56 = .ok (.iconst 3, 1) := by decide +kernel
theorem dX9_phaseLine_57 : decode cX9_phaseLine 57 = .ok (.aload_n 0, 1) := by decide +kernel
theorem dX9_phaseLine_58 : decode cX9_phaseLine 58 = .ok (.getfield 209, 3) := by decide +kernel
theorem dX9_phaseLine_61 : decode cX9_phaseLine 61 = .ok (.invokevirtual 244, 3) := by decide +kernel
theorem dX9_phaseLine_64 : decode cX9_phaseLine 64 = .ok (.aload_n 0, 1) := by decide +kernel
theorem dX9_phaseLine_65 : decode cX9_phaseLine 65 = .ok (.iconst 0, 1) := by decide +kernel
theorem dX9_phaseLine_66 : decode cX9_phaseLine 66 = .ok (.invokevirtual 301, 3) := by decide +kernel
theorem dX9_phaseLine_69 : decode cX9_phaseLine 69 = .ok (.istore_n 2, 1) := by decide +kernel
theorem dX9_phaseLine_70 : decode cX9_phaseLine 70 = .ok (.aload_n 0, 1) := by decide +kernel
theorem dX9_phaseLine_71 : decode cX9_phaseLine 71 = .ok (.getfield 203, 3) := by decide +kernel
theorem dX9_phaseLine_74 : decode cX9_phaseLine 74 = .ok (.ifCond .le 4, 3) := by decide +kernel
theorem dX9_phaseLine_77 : decode cX9_phaseLine 77 = .ok (.return_, 1) := by decide +kernel
theorem dX9_phaseLine_78 : decode cX9_phaseLine 78 = .ok (.aload_n 0, 1) := by decide +kernel
theorem dX9_phaseLine_79 : decode cX9_phaseLine 79 = .ok (.getfield 84, 3) := by decide +kernel
theorem dX9_phaseLine_82 : decode cX9_phaseLine 82 = .ok (.bipush 6, 2) := by decide +kernel
theorem dX9_phaseLine_84 : decode cX9_phaseLine 84 = .ok (.aload_n 0, 1) := by decide +kernel
theorem dX9_phaseLine_85 : decode cX9_phaseLine 85 = .ok (.getfield 270, 3) := by decide +kernel
theorem dX9_phaseLine_88 : decode cX9_phaseLine 88 = .ok (.imul, 1) := by decide +kernel
theorem dX9_phaseLine_89 : decode cX9_phaseLine 89 = .ok (.iload_n 1, 1) := by decide +kernel
theorem dX9_phaseLine_90 : decode cX9_phaseLine 90 = .ok (.iadd, 1) := by decide +kernel
theorem dX9_phaseLine_91 : decode cX9_phaseLine 91 = .ok (.iload_n 2, 1) := by decide +kernel
theorem dX9_phaseLine_92 : decode cX9_phaseLine 92 = .ok (.iastore, 1) := by decide +kernel
theorem dX9_phaseLine_93 : decode cX9_phaseLine 93 = .ok (.iinc 1 1, 3) := by decide +kernel
theorem dX9_phaseLine_96 : decode cX9_phaseLine 96 = .ok (.goto (-58), 3) := by decide +kernel
theorem dX9_phaseLine_99 : decode cX9_phaseLine 99 = .ok (.aload_n 0, 1) := by decide +kernel
theorem dX9_phaseLine_100 : decode cX9_phaseLine 100 = .ok (.getfield 81, 3) := by decide +kernel
theorem dX9_phaseLine_103 : decode cX9_phaseLine 103 = .ok (.aload_n 0, 1) := by decide +kernel
theorem dX9_phaseLine_104 : decode cX9_phaseLine 104 = .ok (.getfield 270, 3) := by decide +kernel
theorem dX9_phaseLine_107 : decode cX9_phaseLine 107 = .ok (.iload_n 1, 1) := by decide +kernel
theorem dX9_phaseLine_108 : decode cX9_phaseLine 108 = .ok (.iastore, 1) := by decide +kernel
theorem dX9_phaseLine_109 : decode cX9_phaseLine 109 = .ok (.aload_n 0, 1) := by decide +kernel
theorem dX9_phaseLine_110 : decode cX9_phaseLine 110 = .ok (.dup, 1) := by decide +kernel
theorem dX9_phaseLine_111 : decode cX9_phaseLine 111 = .ok (.getfield 270, 3) := by decide +kernel
theorem dX9_phaseLine_114 : decode cX9_phaseLine 114 = .ok (.iconst 1, 1) := by decide +kernel
theorem dX9_phaseLine_115 : decode cX9_phaseLine 115 = .ok (.iadd, 1) := by decide +kernel
theorem dX9_phaseLine_116 : decode cX9_phaseLine 116 = .ok (.putfield 270, 3) := by decide +kernel
theorem dX9_phaseLine_119 : decode cX9_phaseLine 119 = .ok (.return_, 1) := by decide +kernel
theorem dX9_signed_0 : decode cX9_signed 0 = .ok (.aload_n 0, 1) := by decide +kernel
theorem dX9_signed_1 : decode cX9_signed 1 = .ok (.bipush 45, 2) := by decide +kernel
theorem dX9_signed_3 : decode cX9_signed 3 = .ok (.invokevirtual 241, 3) := by decide +kernel
theorem dX9_signed_6 : decode cX9_signed 6 = .ok (.istore_n 1, 1) := by decide +kernel
theorem dX9_signed_7 : decode cX9_signed 7 = .ok (.aload_n 0, 1) := by decide +kernel
theorem dX9_signed_8 : decode cX9_signed 8 = .ok (.invokevirtual 214, 3) := by decide +kernel
theorem dX9_signed_11 : decode cX9_signed 11 = .ok (.pop, 1) := by decide +kernel
theorem dX9_signed_12 : decode cX9_signed 12 = .ok (.aload_n 0, 1) := by decide +kernel
theorem dX9_signed_13 : decode cX9_signed 13 = .ok (.getfield 209, 3) := by decide +kernel
theorem dX9_signed_16 : decode cX9_signed 16 = .ok (.istore_n 2, 1) := by decide +kernel
theorem dX9_signed_17 : decode cX9_signed 17 = .ok (.iload_n 1, 1) := by decide +kernel
theorem dX9_signed_18 : decode cX9_signed 18 = .ok (.ifCond .eq 13, 3) := by decide +kernel
theorem dX9_signed_21 : decode cX9_signed 21 = .ok (.aload_n 0, 1) := by decide +kernel
theorem dX9_signed_22 : decode cX9_signed 22 = .ok (.dup, 1) := by decide +kernel
theorem dX9_signed_23 : decode cX9_signed 23 = .ok (.getfield 209, 3) := by decide +kernel
theorem dX9_signed_26 : decode cX9_signed 26 = .ok (.iconst 1, 1) := by decide +kernel
theorem dX9_signed_27 : decode cX9_signed 27 = .ok (.iadd, 1) := by decide +kernel
theorem dX9_signed_28 : decode cX9_signed 28 = .ok (.putfield 209, 3) := by decide +kernel
theorem dX9_signed_31 : decode cX9_signed 31 = .ok (.aload_n 0, 1) := by decide +kernel
theorem dX9_signed_32 : decode cX9_signed 32 = .ok (.invokevirtual 247, 3) := by decide +kernel
theorem dX9_signed_35 : decode cX9_signed 35 = .ok (.ifCond .ne 19, 3) := by decide +kernel
theorem dX9_signed_38 : decode cX9_signed 38 = .ok (.aload_n 0, 1) := by decide +kernel
theorem dX9_signed_39 : decode cX9_signed 39 = .ok (.invokevirtual 214, 3) := by decide +kernel
theorem dX9_signed_42 : decode cX9_signed 42 = .ok (.pop, 1) := by decide +kernel
theorem dX9_signed_43 : decode cX9_signed 43 = .ok (.aload_n 0, 1) := by decide +kernel
theorem dX9_signed_44 : decode cX9_signed 44 = .ok (.iconst 1, 1) := by decide +kernel
theorem dX9_signed_45 : decode cX9_signed 45 = .ok (.aload_n 0, 1) := by decide +kernel
theorem dX9_signed_46 : decode cX9_signed 46 = .ok (.getfield 209, 3) := by decide +kernel
theorem dX9_signed_49 : decode cX9_signed 49 = .ok (.invokevirtual 244, 3) := by decide +kernel
theorem dX9_signed_52 : decode cX9_signed 52 = .ok (.iconst 0, 1) := by decide +kernel
theorem dX9_signed_53 : decode cX9_signed 53 = .ok (.ireturn, 1) := by decide +kernel
theorem dX9_signed_54 : decode cX9_signed 54 = .ok (.iconst 0, 1) := by decide +kernel
theorem dX9_signed_55 : decode cX9_signed 55 = .ok (.istore_n 3, 1) := by decide +kernel
theorem dX9_signed_56 : decode cX9_signed 56 = .ok (.aload_n 0, 1) := by decide +kernel
theorem dX9_signed_57 : decode cX9_signed 57 = .ok (.getfield 209, 3) := by decide +kernel
theorem dX9_signed_60 : decode cX9_signed 60 = .ok (.aload_n 0, 1) := by decide +kernel
theorem dX9_signed_61 : decode cX9_signed 61 = .ok (.getfield 212, 3) := by decide +kernel
theorem dX9_signed_64 : decode cX9_signed 64 = .ok (.if_icmp .ge 67, 3) := by decide +kernel
theorem dX9_signed_67 : decode cX9_signed 67 = .ok (.aload_n 0, 1) := by decide +kernel
theorem dX9_signed_68 : decode cX9_signed 68 = .ok (.getfield 69, 3) := by decide +kernel
theorem dX9_signed_71 : decode cX9_signed 71 = .ok (.aload_n 0, 1) := by decide +kernel
theorem dX9_signed_72 : decode cX9_signed 72 = .ok (.getfield 209, 3) := by decide +kernel
theorem dX9_signed_75 : decode cX9_signed 75 = .ok (.baload, 1) := by decide +kernel
theorem dX9_signed_76 : decode cX9_signed 76 = .ok (.bipush 48, 2) := by decide +kernel
theorem dX9_signed_78 : decode cX9_signed 78 = .ok (.if_icmp .lt 53, 3) := by decide +kernel
theorem dX9_signed_81 : decode cX9_signed 81 = .ok (.aload_n 0, 1) := by decide +kernel
theorem dX9_signed_82 : decode cX9_signed 82 = .ok (.getfield 69, 3) := by decide +kernel
theorem dX9_signed_85 : decode cX9_signed 85 = .ok (.aload_n 0, 1) := by decide +kernel
theorem dX9_signed_86 : decode cX9_signed 86 = .ok (.getfield 209, 3) := by decide +kernel
theorem dX9_signed_89 : decode cX9_signed 89 = .ok (.baload, 1) := by decide +kernel
theorem dX9_signed_90 : decode cX9_signed 90 = .ok (.bipush 57, 2) := by decide +kernel
theorem dX9_signed_92 : decode cX9_signed 92 = .ok (.if_icmp .gt 39, 3) := by decide +kernel
theorem dX9_signed_95 : decode cX9_signed 95 = .ok (.bipush 10, 2) := by decide +kernel
theorem dX9_signed_97 : decode cX9_signed 97 = .ok (.iload_n 3, 1) := by decide +kernel
theorem dX9_signed_98 : decode cX9_signed 98 = .ok (.imul, 1) := by decide +kernel
theorem dX9_signed_99 : decode cX9_signed 99 = .ok (.aload_n 0, 1) := by decide +kernel
theorem dX9_signed_100 : decode cX9_signed 100 = .ok (.getfield 69, 3) := by decide +kernel
theorem dX9_signed_103 : decode cX9_signed 103 = .ok (.aload_n 0, 1) := by decide +kernel
theorem dX9_signed_104 : decode cX9_signed 104 = .ok (.getfield 209, 3) := by decide +kernel
theorem dX9_signed_107 : decode cX9_signed 107 = .ok (.baload, 1) := by decide +kernel
theorem dX9_signed_108 : decode cX9_signed 108 = .ok (.iadd, 1) := by decide +kernel
theorem dX9_signed_109 : decode cX9_signed 109 = .ok (.bipush 48, 2) := by decide +kernel
theorem dX9_signed_111 : decode cX9_signed 111 = .ok (.isub, 1) := by decide +kernel
theorem dX9_signed_112 : decode cX9_signed 112 = .ok (.ldc 250, 2) := by decide +kernel
theorem dX9_signed_114 : decode cX9_signed 114 = .ok (.invokestatic 144, 3) := by decide +kernel
theorem dX9_signed_117 : decode cX9_signed 117 = .ok (.istore_n 3, 1) := by decide +kernel
theorem dX9_signed_118 : decode cX9_signed 118 = .ok (.aload_n 0, 1) := by decide +kernel
theorem dX9_signed_119 : decode cX9_signed 119 = .ok (.dup, 1) := by decide +kernel
theorem dX9_signed_120 : decode cX9_signed 120 = .ok (.getfield 209, 3) := by decide +kernel
theorem dX9_signed_123 : decode cX9_signed 123 = .ok (.iconst 1, 1) := by decide +kernel
theorem dX9_signed_124 : decode cX9_signed 124 = .ok (.iadd, 1) := by decide +kernel
theorem dX9_signed_125 : decode cX9_signed 125 = .ok (.putfield 209, 3) := by decide +kernel
theorem dX9_signed_128 : decode cX9_signed 128 = .ok (.goto (-72), 3) := by decide +kernel
theorem dX9_signed_131 : decode cX9_signed 131 = .ok (.iload_n 3, 1) := by decide +kernel
theorem dX9_signed_132 : decode cX9_signed 132 = .ok (.sipush 500, 3) := by decide +kernel
theorem dX9_signed_135 : decode cX9_signed 135 = .ok (.if_icmp .le 9, 3) := by decide +kernel
theorem dX9_signed_138 : decode cX9_signed 138 = .ok (.aload_n 0, 1) := by decide +kernel
theorem dX9_signed_139 : decode cX9_signed 139 = .ok (.iconst 2, 1) := by decide +kernel
theorem dX9_signed_140 : decode cX9_signed 140 = .ok (.iload_n 2, 1) := by decide +kernel
theorem dX9_signed_141 : decode cX9_signed 141 = .ok (.invokevirtual 244, 3) := by decide +kernel
theorem dX9_signed_144 : decode cX9_signed 144 = .ok (.iload_n 1, 1) := by decide +kernel
theorem dX9_signed_145 : decode cX9_signed 145 = .ok (.ifCond .eq 8, 3) := by decide +kernel
theorem dX9_signed_148 : decode cX9_signed 148 = .ok (.iload_n 3, 1) := by decide +kernel
theorem dX9_signed_149 : decode cX9_signed 149 = .ok (.ineg, 1) := by decide +kernel
theorem dX9_signed_150 : decode cX9_signed 150 = .ok (.goto 4, 3) := by decide +kernel
theorem dX9_signed_153 : decode cX9_signed 153 = .ok (.iload_n 3, 1) := by decide +kernel
theorem dX9_signed_154 : decode cX9_signed 154 = .ok (.ireturn, 1) := by decide +kernel
theorem dX9_once_0 : decode cX9_once 0 = .ok (.aload_n 0, 1) := by decide +kernel
theorem dX9_once_1 : decode cX9_once 1 = .ok (.aload_n 1, 1) := by decide +kernel
theorem dX9_once_2 : decode cX9_once 2 = .ok (.invokevirtual 297, 3) := by decide +kernel
theorem dX9_once_5 : decode cX9_once 5 = .ok (.ifCond .ne 5, 3) := by decide +kernel
theorem dX9_once_8 : decode cX9_once 8 = .ok (.iconst 0, 1) := by decide +kernel
theorem dX9_once_9 : decode cX9_once 9 = .ok (.ireturn, 1) := by decide +kernel
theorem dX9_once_10 : decode cX9_once 10 = .ok (.aload_n 0, 1) := by decide +kernel
theorem dX9_once_11 : decode cX9_once 11 = .ok (.getfield 308, 3) := by decide +kernel
theorem dX9_once_14 : decode cX9_once 14 = .ok (.iload_n 2, 1) := by decide +kernel
theorem dX9_once_15 : decode cX9_once 15 = .ok (.ishr, 1) := by decide +kernel
theorem dX9_once_16 : decode cX9_once 16 = .ok (.iconst 1, 1) := by decide +kernel
theorem dX9_once_17 : decode cX9_once 17 = .ok (.iand, 1) := by decide +kernel
theorem dX9_once_18 : decode cX9_once 18 = .ok (.iconst 1, 1) := by decide +kernel
theorem dX9_once_19 : decode cX9_once 19 = .ok (.if_icmp .ne 12, 3) := by decide +kernel
theorem dX9_once_22 : decode cX9_once 22 = .ok (.aload_n 0, 1) := by decide +kernel
theorem dX9_once_23 : decode cX9_once 23 = .ok (.iconst 3, 1) := by decide +kernel
theorem dX9_once_24 : decode cX9_once 24 = .ok (.aload_n 0, 1) := by decide +kernel
theorem dX9_once_25 : decode cX9_once 25 = .ok (.getfield 238, 3) := by decide +kernel
theorem dX9_once_28 : decode cX9_once 28 = .ok (.invokevirtual 244, 3) := by decide +kernel
theorem dX9_once_31 : decode cX9_once 31 = .ok (.aload_n 0, 1) := by decide +kernel
theorem dX9_once_32 : decode cX9_once 32 = .ok (.dup, 1) := by decide +kernel
theorem dX9_once_33 : decode cX9_once 33 = .ok (.getfield 308, 3) := by decide +kernel
theorem dX9_once_36 : decode cX9_once 36 = .ok (.iconst 1, 1) := by decide +kernel
theorem dX9_once_37 : decode cX9_once 37 = .ok (.iload_n 2, 1) := by decide +kernel
theorem dX9_once_38 : decode cX9_once 38 = .ok (.ishl, 1) := by decide +kernel
theorem dX9_once_39 : decode cX9_once 39 = .ok (.ior, 1) := by decide +kernel
theorem dX9_once_40 : decode cX9_once 40 = .ok (.putfield 308, 3) := by decide +kernel
theorem dX9_once_43 : decode cX9_once 43 = .ok (.iconst 1, 1) := by decide +kernel
theorem dX9_once_44 : decode cX9_once 44 = .ok (.ireturn, 1) := by decide +kernel
