/-! ===== decode rows ===== -/
theorem dX0_madeOf_0 : decode cX0_madeOf 0 = .ok (.aload_n 0, 1) := by decide +kernel
theorem dX0_madeOf_1 : decode cX0_madeOf 1 = .ok (.iconst 0, 1) := by decide +kernel
theorem dX0_madeOf_2 : decode cX0_madeOf 2 = .ok (.aload_n 0, 1) := by decide +kernel
theorem dX0_madeOf_3 : decode cX0_madeOf 3 = .ok (.iload_n 1, 1) := by decide +kernel
theorem dX0_madeOf_4 : decode cX0_madeOf 4 = .ok (.iload_n 2, 1) := by decide +kernel
theorem dX0_madeOf_5 : decode cX0_madeOf 5 = .ok (.invokevirtual 50, 3) := by decide +kernel
theorem dX0_madeOf_8 : decode cX0_madeOf 8 = .ok (.aload_n 0, 1) := by decide +kernel
theorem dX0_madeOf_9 : decode cX0_madeOf 9 = .ok (.getfield 18, 3) := by decide +kernel
theorem dX0_madeOf_12 : decode cX0_madeOf 12 = .ok (.iload_n 1, 1) := by decide +kernel
theorem dX0_madeOf_13 : decode cX0_madeOf 13 = .ok (.iaload, 1) := by decide +kernel
theorem dX0_madeOf_14 : decode cX0_madeOf 14 = .ok (.aload_n 0, 1) := by decide +kernel
theorem dX0_madeOf_15 : decode cX0_madeOf 15 = .ok (.getfield 9, 3) := by decide +kernel
theorem dX0_madeOf_18 : decode cX0_madeOf 18 = .ok (.iload_n 1, 1) := by decide +kernel
theorem dX0_madeOf_19 : decode cX0_madeOf 19 = .ok (.iaload, 1) := by decide +kernel
theorem dX0_madeOf_20 : decode cX0_madeOf 20 = .ok (.invokevirtual 54, 3) := by decide +kernel
theorem dX0_madeOf_23 : decode cX0_madeOf 23 = .ok (.ireturn, 1) := by decide +kernel
theorem dX0_withAdded_0 : decode cX0_withAdded 0 = .ok (.aload_n 0, 1) := by decide +kernel
theorem dX0_withAdded_1 : decode cX0_withAdded 1 = .ok (.getfield 9, 3) := by decide +kernel
theorem dX0_withAdded_4 : decode cX0_withAdded 4 = .ok (.iload_n 1, 1) := by decide +kernel
theorem dX0_withAdded_5 : decode cX0_withAdded 5 = .ok (.iaload, 1) := by decide +kernel
theorem dX0_withAdded_6 : decode cX0_withAdded 6 = .ok (.tableswitch 113 1 6 #[38, 49, 113, 62, 80, 102], 38) := by decide +kernel
theorem dX0_withAdded_44 : decode cX0_withAdded 44 = .ok (.iload_n 2, 1) := by decide +kernel
theorem dX0_withAdded_45 : decode cX0_withAdded 45 = .ok (.iconst 1, 1) := by decide +kernel
theorem dX0_withAdded_46 : decode cX0_withAdded 46 = .ok (.iadd, 1) := by decide +kernel
theorem dX0_withAdded_47 : decode cX0_withAdded 47 = .ok (.aload_n 0, 1) := by decide +kernel
theorem dX0_withAdded_48 : decode cX0_withAdded 48 = .ok (.getfield 15, 3) := by decide +kernel
theorem dX0_withAdded_51 : decode cX0_withAdded 51 = .ok (.iload_n 1, 1) := by decide +kernel
theorem dX0_withAdded_52 : decode cX0_withAdded 52 = .ok (.iaload, 1) := by decide +kernel
theorem dX0_withAdded_53 : decode cX0_withAdded 53 = .ok (.iadd, 1) := by decide +kernel
theorem dX0_withAdded_54 : decode cX0_withAdded 54 = .ok (.ireturn, 1) := by decide +kernel
theorem dX0_withAdded_55 : decode cX0_withAdded 55 = .ok (.iconst 2, 1) := by decide +kernel
theorem dX0_withAdded_56 : decode cX0_withAdded 56 = .ok (.iload_n 2, 1) := by decide +kernel
theorem dX0_withAdded_57 : decode cX0_withAdded 57 = .ok (.iconst 1, 1) := by decide +kernel
theorem dX0_withAdded_58 : decode cX0_withAdded 58 = .ok (.iadd, 1) := by decide +kernel
theorem dX0_withAdded_59 : decode cX0_withAdded 59 = .ok (.imul, 1) := by decide +kernel
theorem dX0_withAdded_60 : decode cX0_withAdded 60 = .ok (.aload_n 0, 1) := by decide +kernel
theorem dX0_withAdded_61 : decode cX0_withAdded 61 = .ok (.getfield 15, 3) := by decide +kernel
theorem dX0_withAdded_64 : decode cX0_withAdded 64 = .ok (.iload_n 1, 1) := by decide +kernel
theorem dX0_withAdded_65 : decode cX0_withAdded 65 = .ok (.iaload, 1) := by decide +kernel
theorem dX0_withAdded_66 : decode cX0_withAdded 66 = .ok (.isub, 1) := by decide +kernel
theorem dX0_withAdded_67 : decode cX0_withAdded 67 = .ok (.ireturn, 1) := by decide +kernel
theorem dX0_withAdded_68 : decode cX0_withAdded 68 = .ok (.iload_n 2, 1) := by decide +kernel
theorem dX0_withAdded_69 : decode cX0_withAdded 69 = .ok (.iconst 1, 1) := by decide +kernel
theorem dX0_withAdded_70 : decode cX0_withAdded 70 = .ok (.iadd, 1) := by decide +kernel
theorem dX0_withAdded_71 : decode cX0_withAdded 71 = .ok (.aload_n 0, 1) := by decide +kernel
theorem dX0_withAdded_72 : decode cX0_withAdded 72 = .ok (.getfield 15, 3) := by decide +kernel
theorem dX0_withAdded_75 : decode cX0_withAdded 75 = .ok (.iload_n 1, 1) := by decide +kernel
theorem dX0_withAdded_76 : decode cX0_withAdded 76 = .ok (.iaload, 1) := by decide +kernel
theorem dX0_withAdded_77 : decode cX0_withAdded 77 = .ok (.iadd, 1) := by decide +kernel
theorem dX0_withAdded_78 : decode cX0_withAdded 78 = .ok (.aload_n 0, 1) := by decide +kernel
theorem dX0_withAdded_79 : decode cX0_withAdded 79 = .ok (.getfield 18, 3) := by decide +kernel
theorem dX0_withAdded_82 : decode cX0_withAdded 82 = .ok (.iload_n 1, 1) := by decide +kernel
theorem dX0_withAdded_83 : decode cX0_withAdded 83 = .ok (.iaload, 1) := by decide +kernel
theorem dX0_withAdded_84 : decode cX0_withAdded 84 = .ok (.iadd, 1) := by decide +kernel
theorem dX0_withAdded_85 : decode cX0_withAdded 85 = .ok (.ireturn, 1) := by decide +kernel
theorem dX0_withAdded_86 : decode cX0_withAdded 86 = .ok (.iconst 2, 1) := by decide +kernel
theorem dX0_withAdded_87 : decode cX0_withAdded 87 = .ok (.iload_n 2, 1) := by decide +kernel
theorem dX0_withAdded_88 : decode cX0_withAdded 88 = .ok (.iconst 1, 1) := by decide +kernel
theorem dX0_withAdded_89 : decode cX0_withAdded 89 = .ok (.iadd, 1) := by decide +kernel
theorem dX0_withAdded_90 : decode cX0_withAdded 90 = .ok (.imul, 1) := by decide +kernel
theorem dX0_withAdded_91 : decode cX0_withAdded 91 = .ok (.aload_n 0, 1) := by decide +kernel
theorem dX0_withAdded_92 : decode cX0_withAdded 92 = .ok (.getfield 15, 3) := by decide +kernel
theorem dX0_withAdded_95 : decode cX0_withAdded 95 = .ok (.iload_n 1, 1) := by decide +kernel
theorem dX0_withAdded_96 : decode cX0_withAdded 96 = .ok (.iaload, 1) := by decide +kernel
theorem dX0_withAdded_97 : decode cX0_withAdded 97 = .ok (.isub, 1) := by decide +kernel
theorem dX0_withAdded_98 : decode cX0_withAdded 98 = .ok (.aload_n 0, 1) := by decide +kernel
theorem dX0_withAdded_99 : decode cX0_withAdded 99 = .ok (.getfield 21, 3) := by decide +kernel
theorem dX0_withAdded_102 : decode cX0_withAdded 102 = .ok (.iload_n 1, 1) := by decide +kernel
theorem dX0_withAdded_103 : decode cX0_withAdded 103 = .ok (.iaload, 1) := by decide +kernel
theorem dX0_withAdded_104 : decode cX0_withAdded 104 = .ok (.iconst 5, 1) := by decide +kernel
theorem dX0_withAdded_105 : decode cX0_withAdded 105 = .ok (.irem, 1) := by decide +kernel
theorem dX0_withAdded_106 : decode cX0_withAdded 106 = .ok (.iadd, 1) := by decide +kernel
theorem dX0_withAdded_107 : decode cX0_withAdded 107 = .ok (.ireturn, 1) := by decide +kernel
theorem dX0_withAdded_108 : decode cX0_withAdded 108 = .ok (.iconst 1, 1) := by decide +kernel
theorem dX0_withAdded_109 : decode cX0_withAdded 109 = .ok (.aload_n 0, 1) := by decide +kernel
theorem dX0_withAdded_110 : decode cX0_withAdded 110 = .ok (.getfield 15, 3) := by decide +kernel
theorem dX0_withAdded_113 : decode cX0_withAdded 113 = .ok (.iload_n 1, 1) := by decide +kernel
theorem dX0_withAdded_114 : decode cX0_withAdded 114 = .ok (.iaload, 1) := by decide +kernel
theorem dX0_withAdded_115 : decode cX0_withAdded 115 = .ok (.iconst 3, 1) := by decide +kernel
theorem dX0_withAdded_116 : decode cX0_withAdded 116 = .ok (.irem, 1) := by decide +kernel
theorem dX0_withAdded_117 : decode cX0_withAdded 117 = .ok (.iadd, 1) := by decide +kernel
theorem dX0_withAdded_118 : decode cX0_withAdded 118 = .ok (.ireturn, 1) := by decide +kernel
theorem dX0_withAdded_119 : decode cX0_withAdded 119 = .ok (.iload_n 2, 1) := by decide +kernel
theorem dX0_withAdded_120 : decode cX0_withAdded 120 = .ok (.iconst 1, 1) := by decide +kernel
theorem dX0_withAdded_121 : decode cX0_withAdded 121 = .ok (.iadd, 1) := by decide +kernel
theorem dX0_withAdded_122 : decode cX0_withAdded 122 = .ok (.ireturn, 1) := by decide +kernel
theorem dX0_isSaidOn_0 : decode cX0_isSaidOn 0 = .ok (.aload_n 0, 1) := by decide +kernel
theorem dX0_isSaidOn_1 : decode cX0_isSaidOn 1 = .ok (.getfield 9, 3) := by decide +kernel
theorem dX0_isSaidOn_4 : decode cX0_isSaidOn 4 = .ok (.iload_n 1, 1) := by decide +kernel
theorem dX0_isSaidOn_5 : decode cX0_isSaidOn 5 = .ok (.iaload, 1) := by decide +kernel
theorem dX0_isSaidOn_6 : decode cX0_isSaidOn 6 = .ok (.tableswitch 130 1 6 #[38, 130, 52, 71, 96, 115], 38) := by decide +kernel
theorem dX0_isSaidOn_44 : decode cX0_isSaidOn 44 = .ok (.iload_n 2, 1) := by decide +kernel
theorem dX0_isSaidOn_45 : decode cX0_isSaidOn 45 = .ok (.aload_n 0, 1) := by decide +kernel
theorem dX0_isSaidOn_46 : decode cX0_isSaidOn 46 = .ok (.getfield 58, 3) := by decide +kernel
theorem dX0_isSaidOn_49 : decode cX0_isSaidOn 49 = .ok (.if_icmp .le 7, 3) := by decide +kernel
theorem dX0_isSaidOn_52 : decode cX0_isSaidOn 52 = .ok (.iconst 1, 1) := by decide +kernel
theorem dX0_isSaidOn_53 : decode cX0_isSaidOn 53 = .ok (.goto 4, 3) := by decide +kernel
theorem dX0_isSaidOn_56 : decode cX0_isSaidOn 56 = .ok (.iconst 0, 1) := by decide +kernel
theorem dX0_isSaidOn_57 : decode cX0_isSaidOn 57 = .ok (.ireturn, 1) := by decide +kernel
theorem dX0_isSaidOn_58 : decode cX0_isSaidOn 58 = .ok (.iload_n 2, 1) := by decide +kernel
theorem dX0_isSaidOn_59 : decode cX0_isSaidOn 59 = .ok (.aload_n 0, 1) := by decide +kernel
theorem dX0_isSaidOn_60 : decode cX0_isSaidOn 60 = .ok (.getfield 15, 3) := by decide +kernel
theorem dX0_isSaidOn_63 : decode cX0_isSaidOn 63 = .ok (.iload_n 1, 1) := by decide +kernel
theorem dX0_isSaidOn_64 : decode cX0_isSaidOn 64 = .ok (.iaload, 1) := by decide +kernel
theorem dX0_isSaidOn_65 : decode cX0_isSaidOn 65 = .ok (.iconst 2, 1) := by decide +kernel
theorem dX0_isSaidOn_66 : decode cX0_isSaidOn 66 = .ok (.iadd, 1) := by decide +kernel
theorem dX0_isSaidOn_67 : decode cX0_isSaidOn 67 = .ok (.irem, 1) := by decide +kernel
theorem dX0_isSaidOn_68 : decode cX0_isSaidOn 68 = .ok (.ifCond .eq 7, 3) := by decide +kernel
theorem dX0_isSaidOn_71 : decode cX0_isSaidOn 71 = .ok (.iconst 1, 1) := by decide +kernel
theorem dX0_isSaidOn_72 : decode cX0_isSaidOn 72 = .ok (.goto 4, 3) := by decide +kernel
theorem dX0_isSaidOn_75 : decode cX0_isSaidOn 75 = .ok (.iconst 0, 1) := by decide +kernel
theorem dX0_isSaidOn_76 : decode cX0_isSaidOn 76 = .ok (.ireturn, 1) := by decide +kernel
theorem dX0_isSaidOn_77 : decode cX0_isSaidOn 77 = .ok (.iload_n 2, 1) := by decide +kernel
theorem dX0_isSaidOn_78 : decode cX0_isSaidOn 78 = .ok (.aload_n 0, 1) := by decide +kernel
theorem dX0_isSaidOn_79 : decode cX0_isSaidOn 79 = .ok (.getfield 58, 3) := by decide +kernel
theorem dX0_isSaidOn_82 : decode cX0_isSaidOn 82 = .ok (.if_icmp .gt 14, 3) := by decide +kernel
theorem dX0_isSaidOn_85 : decode cX0_isSaidOn 85 = .ok (.aload_n 0, 1) := by decide +kernel
theorem dX0_isSaidOn_86 : decode cX0_isSaidOn 86 = .ok (.getfield 15, 3) := by decide +kernel
theorem dX0_isSaidOn_89 : decode cX0_isSaidOn 89 = .ok (.iload_n 1, 1) := by decide +kernel
theorem dX0_isSaidOn_90 : decode cX0_isSaidOn 90 = .ok (.iaload, 1) := by decide +kernel
theorem dX0_isSaidOn_91 : decode cX0_isSaidOn 91 = .ok (.bipush 6, 2) := by decide +kernel
theorem dX0_isSaidOn_93 : decode cX0_isSaidOn 93 = .ok (.if_icmp .le 7, 3) := by decide +kernel
theorem dX0_isSaidOn_96 : decode cX0_isSaidOn 96 = .ok (.iconst 1, 1) := by decide +kernel
theorem dX0_isSaidOn_97 : decode cX0_isSaidOn 97 = .ok (.goto 4, 3) := by decide +kernel
theorem dX0_isSaidOn_100 : decode cX0_isSaidOn 100 = .ok (.iconst 0, 1) := by decide +kernel
theorem dX0_isSaidOn_101 : decode cX0_isSaidOn 101 = .ok (.ireturn, 1) := by decide +kernel
theorem dX0_isSaidOn_102 : decode cX0_isSaidOn 102 = .ok (.iload_n 2, 1) := by decide +kernel
theorem dX0_isSaidOn_103 : decode cX0_isSaidOn 103 = .ok (.bipush 60, 2) := by decide +kernel
theorem dX0_isSaidOn_105 : decode cX0_isSaidOn 105 = .ok (.aload_n 0, 1) := by decide +kernel
theorem dX0_isSaidOn_106 : decode cX0_isSaidOn 106 = .ok (.getfield 15, 3) := by decide +kernel
theorem dX0_isSaidOn_109 : decode cX0_isSaidOn 109 = .ok (.iload_n 1, 1) := by decide +kernel
theorem dX0_isSaidOn_110 : decode cX0_isSaidOn 110 = .ok (.iaload, 1) := by decide +kernel
theorem dX0_isSaidOn_111 : decode cX0_isSaidOn 111 = .ok (.iadd, 1) := by decide +kernel
theorem dX0_isSaidOn_112 : decode cX0_isSaidOn 112 = .ok (.if_icmp .ge 7, 3) := by decide +kernel
theorem dX0_isSaidOn_115 : decode cX0_isSaidOn 115 = .ok (.iconst 1, 1) := by decide +kernel
theorem dX0_isSaidOn_116 : decode cX0_isSaidOn 116 = .ok (.goto 4, 3) := by decide +kernel
theorem dX0_isSaidOn_119 : decode cX0_isSaidOn 119 = .ok (.iconst 0, 1) := by decide +kernel
theorem dX0_isSaidOn_120 : decode cX0_isSaidOn 120 = .ok (.ireturn, 1) := by decide +kernel
theorem dX0_isSaidOn_121 : decode cX0_isSaidOn 121 = .ok (.aload_n 0, 1) := by decide +kernel
theorem dX0_isSaidOn_122 : decode cX0_isSaidOn 122 = .ok (.getfield 58, 3) := by decide +kernel
theorem dX0_isSaidOn_125 : decode cX0_isSaidOn 125 = .ok (.bipush 8, 2) := by decide +kernel
theorem dX0_isSaidOn_127 : decode cX0_isSaidOn 127 = .ok (.if_icmp .ge 7, 3) := by decide +kernel
theorem dX0_isSaidOn_130 : decode cX0_isSaidOn 130 = .ok (.iconst 1, 1) := by decide +kernel
theorem dX0_isSaidOn_131 : decode cX0_isSaidOn 131 = .ok (.goto 4, 3) := by decide +kernel
theorem dX0_isSaidOn_134 : decode cX0_isSaidOn 134 = .ok (.iconst 0, 1) := by decide +kernel
theorem dX0_isSaidOn_135 : decode cX0_isSaidOn 135 = .ok (.ireturn, 1) := by decide +kernel
theorem dX0_isSaidOn_136 : decode cX0_isSaidOn 136 = .ok (.iconst 1, 1) := by decide +kernel
theorem dX0_isSaidOn_137 : decode cX0_isSaidOn 137 = .ok (.ireturn, 1) := by decide +kernel
theorem dX0_howSlow_0 : decode cX0_howSlow 0 = .ok (.aload_n 0, 1) := by decide +kernel
theorem dX0_howSlow_1 : decode cX0_howSlow 1 = .ok (.iconst 1, 1) := by decide +kernel
theorem dX0_howSlow_2 : decode cX0_howSlow 2 = .ok (.aload_n 0, 1) := by decide +kernel
theorem dX0_howSlow_3 : decode cX0_howSlow 3 = .ok (.getfield 30, 3) := by decide +kernel
theorem dX0_howSlow_6 : decode cX0_howSlow 6 = .ok (.iload_n 1, 1) := by decide +kernel
theorem dX0_howSlow_7 : decode cX0_howSlow 7 = .ok (.iaload, 1) := by decide +kernel
theorem dX0_howSlow_8 : decode cX0_howSlow 8 = .ok (.aload_n 0, 1) := by decide +kernel
theorem dX0_howSlow_9 : decode cX0_howSlow 9 = .ok (.getfield 58, 3) := by decide +kernel
theorem dX0_howSlow_12 : decode cX0_howSlow 12 = .ok (.aload_n 0, 1) := by decide +kernel
theorem dX0_howSlow_13 : decode cX0_howSlow 13 = .ok (.getfield 18, 3) := by decide +kernel
theorem dX0_howSlow_16 : decode cX0_howSlow 16 = .ok (.aload_n 0, 1) := by decide +kernel
theorem dX0_howSlow_17 : decode cX0_howSlow 17 = .ok (.getfield 24, 3) := by decide +kernel
theorem dX0_howSlow_20 : decode cX0_howSlow 20 = .ok (.iload_n 1, 1) := by decide +kernel
theorem dX0_howSlow_21 : decode cX0_howSlow 21 = .ok (.iaload, 1) := by decide +kernel
theorem dX0_howSlow_22 : decode cX0_howSlow 22 = .ok (.iaload, 1) := by decide +kernel
theorem dX0_howSlow_23 : decode cX0_howSlow 23 = .ok (.aload_n 0, 1) := by decide +kernel
theorem dX0_howSlow_24 : decode cX0_howSlow 24 = .ok (.getfield 18, 3) := by decide +kernel
theorem dX0_howSlow_27 : decode cX0_howSlow 27 = .ok (.aload_n 0, 1) := by decide +kernel
theorem dX0_howSlow_28 : decode cX0_howSlow 28 = .ok (.getfield 27, 3) := by decide +kernel
theorem dX0_howSlow_31 : decode cX0_howSlow 31 = .ok (.iload_n 1, 1) := by decide +kernel
theorem dX0_howSlow_32 : decode cX0_howSlow 32 = .ok (.iaload, 1) := by decide +kernel
theorem dX0_howSlow_33 : decode cX0_howSlow 33 = .ok (.iaload, 1) := by decide +kernel
theorem dX0_howSlow_34 : decode cX0_howSlow 34 = .ok (.isub, 1) := by decide +kernel
theorem dX0_howSlow_35 : decode cX0_howSlow 35 = .ok (.invokevirtual 54, 3) := by decide +kernel
theorem dX0_howSlow_38 : decode cX0_howSlow 38 = .ok (.ireturn, 1) := by decide +kernel
theorem dX0_given_0 : decode cX0_given 0 = .ok (.aload_n 0, 1) := by decide +kernel
theorem dX0_given_1 : decode cX0_given 1 = .ok (.getfield 43, 3) := by decide +kernel
theorem dX0_given_4 : decode cX0_given 4 = .ok (.iload_n 1, 1) := by decide +kernel
theorem dX0_given_5 : decode cX0_given 5 = .ok (.aaload, 1) := by decide +kernel
theorem dX0_given_6 : decode cX0_given 6 = .ok (.getfield 61, 3) := by decide +kernel
theorem dX0_given_9 : decode cX0_given 9 = .ok (.ifCond .eq 19, 3) := by decide +kernel
theorem dX0_given_12 : decode cX0_given 12 = .ok (.aload_n 0, 1) := by decide +kernel
theorem dX0_given_13 : decode cX0_given 13 = .ok (.getfield 43, 3) := by decide +kernel
theorem dX0_given_16 : decode cX0_given 16 = .ok (.iload_n 1, 1) := by decide +kernel
theorem dX0_given_17 : decode cX0_given 17 = .ok (.aaload, 1) := by decide +kernel
theorem dX0_given_18 : decode cX0_given 18 = .ok (.iload_n 2, 1) := by decide +kernel
theorem dX0_given_19 : decode cX0_given 19 = .ok (.iload_n 3, 1) := by decide +kernel
theorem dX0_given_20 : decode cX0_given 20 = .ok (.iload 4, 2) := by decide +kernel
theorem dX0_given_22 : decode cX0_given 22 = .ok (.invokevirtual 65, 3) := by decide +kernel
theorem dX0_given_25 : decode cX0_given 25 = .ok (.goto 4, 3) := by decide +kernel
theorem dX0_given_28 : decode cX0_given 28 = .ok (.iload_n 2, 1) := by decide +kernel
theorem dX0_given_29 : decode cX0_given 29 = .ok (.istore 5, 2) := by decide +kernel
theorem dX0_given_31 : decode cX0_given 31 = .ok (.iconst 1, 1) := by decide +kernel
theorem dX0_given_32 : decode cX0_given 32 = .ok (.iload_n 1, 1) := by decide +kernel
theorem dX0_given_33 : decode cX0_given 33 = .ok (.ifCond .ne 8, 3) := by decide +kernel
theorem dX0_given_36 : decode cX0_given 36 = .ok (.bipush 99, 2) := by decide +kernel
theorem dX0_given_38 : decode cX0_given 38 = .ok (.goto 5, 3) := by decide +kernel
theorem dX0_given_41 : decode cX0_given 41 = .ok (.bipush 20, 2) := by decide +kernel
theorem dX0_given_43 : decode cX0_given 43 = .ok (.iload 5, 2) := by decide +kernel
theorem dX0_given_45 : decode cX0_given 45 = .ok (.invokestatic 69, 3) := by decide +kernel
theorem dX0_given_48 : decode cX0_given 48 = .ok (.invokestatic 74, 3) := by decide +kernel
theorem dX0_given_51 : decode cX0_given 51 = .ok (.ireturn, 1) := by decide +kernel
theorem dX0_passDay_0 : decode cX0_passDay 0 = .ok (.iconst 0, 1) := by decide +kernel
theorem dX0_passDay_1 : decode cX0_passDay 1 = .ok (.istore_n 1, 1) := by decide +kernel
theorem dX0_passDay_2 : decode cX0_passDay 2 = .ok (.iload_n 1, 1) := by decide +kernel
theorem dX0_passDay_3 : decode cX0_passDay 3 = .ok (.aload_n 0, 1) := by decide +kernel
theorem dX0_passDay_4 : decode cX0_passDay 4 = .ok (.getfield 77, 3) := by decide +kernel
theorem dX0_passDay_7 : decode cX0_passDay 7 = .ok (.if_icmp .ge 26, 3) := by decide +kernel
theorem dX0_passDay_10 : decode cX0_passDay 10 = .ok (.aload_n 0, 1) := by decide +kernel
theorem dX0_passDay_11 : decode cX0_passDay 11 = .ok (.getfield 21, 3) := by decide +kernel
theorem dX0_passDay_14 : decode cX0_passDay 14 = .ok (.iload_n 1, 1) := by decide +kernel
theorem dX0_passDay_15 : decode cX0_passDay 15 = .ok (.dup2, 1) := by decide +kernel
theorem dX0_passDay_16 : decode cX0_passDay 16 = .ok (.iaload, 1) := by decide +kernel
theorem dX0_passDay_17 : decode cX0_passDay 17 = .ok (.aload_n 0, 1) := by decide +kernel
theorem dX0_passDay_18 : decode cX0_passDay 18 = .ok (.getfield 21, 3) := by decide +kernel
theorem dX0_passDay_21 : decode cX0_passDay 21 = .ok (.iload_n 1, 1) := by decide +kernel
theorem dX0_passDay_22 : decode cX0_passDay 22 = .ok (.iaload, 1) := by decide +kernel
theorem dX0_passDay_23 : decode cX0_passDay 23 = .ok (.iconst 4, 1) := by decide +kernel
theorem dX0_passDay_24 : decode cX0_passDay 24 = .ok (.idiv, 1) := by decide +kernel
theorem dX0_passDay_25 : decode cX0_passDay 25 = .ok (.isub, 1) := by decide +kernel
theorem dX0_passDay_26 : decode cX0_passDay 26 = .ok (.iastore, 1) := by decide +kernel
theorem dX0_passDay_27 : decode cX0_passDay 27 = .ok (.iinc 1 1, 3) := by decide +kernel
theorem dX0_passDay_30 : decode cX0_passDay 30 = .ok (.goto (-28), 3) := by decide +kernel
theorem dX0_passDay_33 : decode cX0_passDay 33 = .ok (.aload_n 0, 1) := by decide +kernel
theorem dX0_passDay_34 : decode cX0_passDay 34 = .ok (.dup, 1) := by decide +kernel
theorem dX0_passDay_35 : decode cX0_passDay 35 = .ok (.getfield 80, 3) := by decide +kernel
theorem dX0_passDay_38 : decode cX0_passDay 38 = .ok (.iconst 1, 1) := by decide +kernel
theorem dX0_passDay_39 : decode cX0_passDay 39 = .ok (.iadd, 1) := by decide +kernel
theorem dX0_passDay_40 : decode cX0_passDay 40 = .ok (.putfield 80, 3) := by decide +kernel
theorem dX0_passDay_43 : decode cX0_passDay 43 = .ok (.return_, 1) := by decide +kernel
theorem dX0_draw_0 : decode cX0_draw 0 = .ok (.aload_n 0, 1) := by decide +kernel
theorem dX0_draw_1 : decode cX0_draw 1 = .ok (.aload_n 0, 1) := by decide +kernel
theorem dX0_draw_2 : decode cX0_draw 2 = .ok (.getfield 33, 3) := by decide +kernel
theorem dX0_draw_5 : decode cX0_draw 5 = .ok (.ldc 83, 2) := by decide +kernel
theorem dX0_draw_7 : decode cX0_draw 7 = .ok (.imul, 1) := by decide +kernel
theorem dX0_draw_8 : decode cX0_draw 8 = .ok (.sipush 12345, 3) := by decide +kernel
theorem dX0_draw_11 : decode cX0_draw 11 = .ok (.iadd, 1) := by decide +kernel
theorem dX0_draw_12 : decode cX0_draw 12 = .ok (.putfield 33, 3) := by decide +kernel
theorem dX0_draw_15 : decode cX0_draw 15 = .ok (.aload_n 0, 1) := by decide +kernel
theorem dX0_draw_16 : decode cX0_draw 16 = .ok (.getfield 33, 3) := by decide +kernel
theorem dX0_draw_19 : decode cX0_draw 19 = .ok (.bipush 8, 2) := by decide +kernel
theorem dX0_draw_21 : decode cX0_draw 21 = .ok (.iushr, 1) := by decide +kernel
theorem dX0_draw_22 : decode cX0_draw 22 = .ok (.ireturn, 1) := by decide +kernel
theorem dX0_copyFrom_0 : decode cX0_copyFrom 0 = .ok (.aload_n 0, 1) := by decide +kernel
theorem dX0_copyFrom_1 : decode cX0_copyFrom 1 = .ok (.aload_n 1, 1) := by decide +kernel
theorem dX0_copyFrom_2 : decode cX0_copyFrom 2 = .ok (.getfield 77, 3) := by decide +kernel
theorem dX0_copyFrom_5 : decode cX0_copyFrom 5 = .ok (.putfield 77, 3) := by decide +kernel
theorem dX0_copyFrom_8 : decode cX0_copyFrom 8 = .ok (.aload_n 1, 1) := by decide +kernel
theorem dX0_copyFrom_9 : decode cX0_copyFrom 9 = .ok (.getfield 9, 3) := by decide +kernel
theorem dX0_copyFrom_12 : decode cX0_copyFrom 12 = .ok (.iconst 0, 1) := by decide +kernel
theorem dX0_copyFrom_13 : decode cX0_copyFrom 13 = .ok (.aload_n 0, 1) := by decide +kernel
theorem dX0_copyFrom_14 : decode cX0_copyFrom 14 = .ok (.getfield 9, 3) := by decide +kernel
theorem dX0_copyFrom_17 : decode cX0_copyFrom 17 = .ok (.iconst 0, 1) := by decide +kernel
theorem dX0_copyFrom_18 : decode cX0_copyFrom 18 = .ok (.bipush 8, 2) := by decide +kernel
theorem dX0_copyFrom_20 : decode cX0_copyFrom 20 = .ok (.invokestatic 84, 3) := by decide +kernel
theorem dX0_copyFrom_23 : decode cX0_copyFrom 23 = .ok (.aload_n 1, 1) := by decide +kernel
theorem dX0_copyFrom_24 : decode cX0_copyFrom 24 = .ok (.getfield 15, 3) := by decide +kernel
theorem dX0_copyFrom_27 : decode cX0_copyFrom 27 = .ok (.iconst 0, 1) := by decide +kernel
theorem dX0_copyFrom_28 : decode cX0_copyFrom 28 = .ok (.aload_n 0, 1) := by decide +kernel
theorem dX0_copyFrom_29 : decode cX0_copyFrom 29 = .ok (.getfield 15, 3) := by decide +kernel
theorem dX0_copyFrom_32 : decode cX0_copyFrom 32 = .ok (.iconst 0, 1) := by decide +kernel
theorem dX0_copyFrom_33 : decode cX0_copyFrom 33 = .ok (.bipush 8, 2) := by decide +kernel
theorem dX0_copyFrom_35 : decode cX0_copyFrom 35 = .ok (.invokestatic 84, 3) := by decide +kernel
theorem dX0_copyFrom_38 : decode cX0_copyFrom 38 = .ok (.aload_n 1, 1) := by decide +kernel
theorem dX0_copyFrom_39 : decode cX0_copyFrom 39 = .ok (.getfield 18, 3) := by decide +kernel
theorem dX0_copyFrom_42 : decode cX0_copyFrom 42 = .ok (.iconst 0, 1) := by decide +kernel
theorem dX0_copyFrom_43 : decode cX0_copyFrom 43 = .ok (.aload_n 0, 1) := by decide +kernel
theorem dX0_copyFrom_44 : decode cX0_copyFrom 44 = .ok (.getfield 18, 3) := by decide +kernel
theorem dX0_copyFrom_47 : decode cX0_copyFrom 47 = .ok (.iconst 0, 1) := by decide +kernel
theorem dX0_copyFrom_48 : decode cX0_copyFrom 48 = .ok (.bipush 8, 2) := by decide +kernel
theorem dX0_copyFrom_50 : decode cX0_copyFrom 50 = .ok (.invokestatic 84, 3) := by decide +kernel
theorem dX0_copyFrom_53 : decode cX0_copyFrom 53 = .ok (.aload_n 1, 1) := by decide +kernel
theorem dX0_copyFrom_54 : decode cX0_copyFrom 54 = .ok (.getfield 21, 3) := by decide +kernel
theorem dX0_copyFrom_57 : decode cX0_copyFrom 57 = .ok (.iconst 0, 1) := by decide +kernel
theorem dX0_copyFrom_58 : decode cX0_copyFrom 58 = .ok (.aload_n 0, 1) := by decide +kernel
theorem dX0_copyFrom_59 : decode cX0_copyFrom 59 = .ok (.getfield 21, 3) := by decide +kernel
theorem dX0_copyFrom_62 : decode cX0_copyFrom 62 = .ok (.iconst 0, 1) := by decide +kernel
theorem dX0_copyFrom_63 : decode cX0_copyFrom 63 = .ok (.bipush 8, 2) := by decide +kernel
theorem dX0_copyFrom_65 : decode cX0_copyFrom 65 = .ok (.invokestatic 84, 3) := by decide +kernel
theorem dX0_copyFrom_68 : decode cX0_copyFrom 68 = .ok (.aload_n 0, 1) := by decide +kernel
theorem dX0_copyFrom_69 : decode cX0_copyFrom 69 = .ok (.aload_n 1, 1) := by decide +kernel
theorem dX0_copyFrom_70 : decode cX0_copyFrom 70 = .ok (.getfield 90, 3) := by decide +kernel
theorem dX0_copyFrom_73 : decode cX0_copyFrom 73 = .ok (.putfield 90, 3) := by decide +kernel
theorem dX0_copyFrom_76 : decode cX0_copyFrom 76 = .ok (.aload_n 1, 1) := by decide +kernel
theorem dX0_copyFrom_77 : decode cX0_copyFrom 77 = .ok (.getfield 24, 3) := by decide +kernel
theorem dX0_copyFrom_80 : decode cX0_copyFrom 80 = .ok (.iconst 0, 1) := by decide +kernel
theorem dX0_copyFrom_81 : decode cX0_copyFrom 81 = .ok (.aload_n 0, 1) := by decide +kernel
theorem dX0_copyFrom_82 : decode cX0_copyFrom 82 = .ok (.getfield 24, 3) := by decide +kernel
theorem dX0_copyFrom_85 : decode cX0_copyFrom 85 = .ok (.iconst 0, 1) := by decide +kernel
theorem dX0_copyFrom_86 : decode cX0_copyFrom 86 = .ok (.bipush 9, 2) := by decide +kernel
theorem dX0_copyFrom_88 : decode cX0_copyFrom 88 = .ok (.invokestatic 84, 3) := by decide +kernel
theorem dX0_copyFrom_91 : decode cX0_copyFrom 91 = .ok (.aload_n 1, 1) := by decide +kernel
theorem dX0_copyFrom_92 : decode cX0_copyFrom 92 = .ok (.getfield 27, 3) := by decide +kernel
theorem dX0_copyFrom_95 : decode cX0_copyFrom 95 = .ok (.iconst 0, 1) := by decide +kernel
theorem dX0_copyFrom_96 : decode cX0_copyFrom 96 = .ok (.aload_n 0, 1) := by decide +kernel
theorem dX0_copyFrom_97 : decode cX0_copyFrom 97 = .ok (.getfield 27, 3) := by decide +kernel
theorem dX0_copyFrom_100 : decode cX0_copyFrom 100 = .ok (.iconst 0, 1) := by decide +kernel
theorem dX0_copyFrom_101 : decode cX0_copyFrom 101 = .ok (.bipush 9, 2) := by decide +kernel
theorem dX0_copyFrom_103 : decode cX0_copyFrom 103 = .ok (.invokestatic 84, 3) := by decide +kernel
theorem dX0_copyFrom_106 : decode cX0_copyFrom 106 = .ok (.aload_n 1, 1) := by decide +kernel
theorem dX0_copyFrom_107 : decode cX0_copyFrom 107 = .ok (.getfield 30, 3) := by decide +kernel
theorem dX0_copyFrom_110 : decode cX0_copyFrom 110 = .ok (.iconst 0, 1) := by decide +kernel
theorem dX0_copyFrom_111 : decode cX0_copyFrom 111 = .ok (.aload_n 0, 1) := by decide +kernel
theorem dX0_copyFrom_112 : decode cX0_copyFrom 112 = .ok (.getfield 30, 3) := by decide +kernel
theorem dX0_copyFrom_115 : decode cX0_copyFrom 115 = .ok (.iconst 0, 1) := by decide +kernel
theorem dX0_copyFrom_116 : decode cX0_copyFrom 116 = .ok (.bipush 9, 2) := by decide +kernel
theorem dX0_copyFrom_118 : decode cX0_copyFrom 118 = .ok (.invokestatic 84, 3) := by decide +kernel
theorem dX0_copyFrom_121 : decode cX0_copyFrom 121 = .ok (.aload_n 0, 1) := by decide +kernel
theorem dX0_copyFrom_122 : decode cX0_copyFrom 122 = .ok (.aload_n 1, 1) := by decide +kernel
theorem dX0_copyFrom_123 : decode cX0_copyFrom 123 = .ok (.getfield 93, 3) := by decide +kernel
theorem dX0_copyFrom_126 : decode cX0_copyFrom 126 = .ok (.putfield 93, 3) := by decide +kernel
theorem dX0_copyFrom_129 : decode cX0_copyFrom 129 = .ok (.aload_n 0, 1) := by decide +kernel
theorem dX0_copyFrom_130 : decode cX0_copyFrom 130 = .ok (.aload_n 1, 1) := by decide +kernel
theorem dX0_copyFrom_131 : decode cX0_copyFrom 131 = .ok (.getfield 58, 3) := by decide +kernel
theorem dX0_copyFrom_134 : decode cX0_copyFrom 134 = .ok (.putfield 58, 3) := by decide +kernel
theorem dX0_copyFrom_137 : decode cX0_copyFrom 137 = .ok (.aload_n 0, 1) := by decide +kernel
theorem dX0_copyFrom_138 : decode cX0_copyFrom 138 = .ok (.aload_n 1, 1) := by decide +kernel
theorem dX0_copyFrom_139 : decode cX0_copyFrom 139 = .ok (.getfield 80, 3) := by decide +kernel
theorem dX0_copyFrom_142 : decode cX0_copyFrom 142 = .ok (.putfield 80, 3) := by decide +kernel
theorem dX0_copyFrom_145 : decode cX0_copyFrom 145 = .ok (.aload_n 0, 1) := by decide +kernel
theorem dX0_copyFrom_146 : decode cX0_copyFrom 146 = .ok (.aload_n 1, 1) := by decide +kernel
theorem dX0_copyFrom_147 : decode cX0_copyFrom 147 = .ok (.getfield 33, 3) := by decide +kernel
theorem dX0_copyFrom_150 : decode cX0_copyFrom 150 = .ok (.putfield 33, 3) := by decide +kernel
theorem dX0_copyFrom_153 : decode cX0_copyFrom 153 = .ok (.aload_n 1, 1) := by decide +kernel
theorem dX0_copyFrom_154 : decode cX0_copyFrom 154 = .ok (.getfield 37, 3) := by decide +kernel
theorem dX0_copyFrom_157 : decode cX0_copyFrom 157 = .ok (.iconst 0, 1) := by decide +kernel
theorem dX0_copyFrom_158 : decode cX0_copyFrom 158 = .ok (.aload_n 0, 1) := by decide +kernel
theorem dX0_copyFrom_159 : decode cX0_copyFrom 159 = .ok (.getfield 37, 3) := by decide +kernel
theorem dX0_copyFrom_162 : decode cX0_copyFrom 162 = .ok (.iconst 0, 1) := by decide +kernel
theorem dX0_copyFrom_163 : decode cX0_copyFrom 163 = .ok (.bipush 60, 2) := by decide +kernel
theorem dX0_copyFrom_165 : decode cX0_copyFrom 165 = .ok (.invokestatic 84, 3) := by decide +kernel
theorem dX0_copyFrom_168 : decode cX0_copyFrom 168 = .ok (.aload_n 0, 1) := by decide +kernel
theorem dX0_copyFrom_169 : decode cX0_copyFrom 169 = .ok (.aload_n 1, 1) := by decide +kernel
theorem dX0_copyFrom_170 : decode cX0_copyFrom 170 = .ok (.getfield 96, 3) := by decide +kernel
theorem dX0_copyFrom_173 : decode cX0_copyFrom 173 = .ok (.putfield 96, 3) := by decide +kernel
theorem dX0_copyFrom_176 : decode cX0_copyFrom 176 = .ok (.aload_n 0, 1) := by decide +kernel
theorem dX0_copyFrom_177 : decode cX0_copyFrom 177 = .ok (.getfield 43, 3) := by decide +kernel
theorem dX0_copyFrom_180 : decode cX0_copyFrom 180 = .ok (.iconst 0, 1) := by decide +kernel
theorem dX0_copyFrom_181 : decode cX0_copyFrom 181 = .ok (.aaload, 1) := by decide +kernel
theorem dX0_copyFrom_182 : decode cX0_copyFrom 182 = .ok (.aload_n 1, 1) := by decide +kernel
theorem dX0_copyFrom_183 : decode cX0_copyFrom 183 = .ok (.getfield 43, 3) := by decide +kernel
theorem dX0_copyFrom_186 : decode cX0_copyFrom 186 = .ok (.iconst 0, 1) := by decide +kernel
theorem dX0_copyFrom_187 : decode cX0_copyFrom 187 = .ok (.aaload, 1) := by decide +kernel
theorem dX0_copyFrom_188 : decode cX0_copyFrom 188 = .ok (.invokevirtual 99, 3) := by decide +kernel
theorem dX0_copyFrom_191 : decode cX0_copyFrom 191 = .ok (.aload_n 0, 1) := by decide +kernel
theorem dX0_copyFrom_192 : decode cX0_copyFrom 192 = .ok (.getfield 43, 3) := by decide +kernel
theorem dX0_copyFrom_195 : decode cX0_copyFrom 195 = .ok (.iconst 1, 1) := by decide +kernel
theorem dX0_copyFrom_196 : decode cX0_copyFrom 196 = .ok (.aaload, 1) := by decide +kernel
theorem dX0_copyFrom_197 : decode cX0_copyFrom 197 = .ok (.aload_n 1, 1) := by decide +kernel
theorem dX0_copyFrom_198 : decode cX0_copyFrom 198 = .ok (.getfield 43, 3) := by decide +kernel
theorem dX0_copyFrom_201 : decode cX0_copyFrom 201 = .ok (.iconst 1, 1) := by decide +kernel
theorem dX0_copyFrom_202 : decode cX0_copyFrom 202 = .ok (.aaload, 1) := by decide +kernel
theorem dX0_copyFrom_203 : decode cX0_copyFrom 203 = .ok (.invokevirtual 99, 3) := by decide +kernel
theorem dX0_copyFrom_206 : decode cX0_copyFrom 206 = .ok (.aload_n 1, 1) := by decide +kernel
theorem dX0_copyFrom_207 : decode cX0_copyFrom 207 = .ok (.getfield 47, 3) := by decide +kernel
theorem dX0_copyFrom_210 : decode cX0_copyFrom 210 = .ok (.iconst 0, 1) := by decide +kernel
theorem dX0_copyFrom_211 : decode cX0_copyFrom 211 = .ok (.aload_n 0, 1) := by decide +kernel
theorem dX0_copyFrom_212 : decode cX0_copyFrom 212 = .ok (.getfield 47, 3) := by decide +kernel
theorem dX0_copyFrom_215 : decode cX0_copyFrom 215 = .ok (.iconst 0, 1) := by decide +kernel
theorem dX0_copyFrom_216 : decode cX0_copyFrom 216 = .ok (.bipush 24, 2) := by decide +kernel
theorem dX0_copyFrom_218 : decode cX0_copyFrom 218 = .ok (.invokestatic 84, 3) := by decide +kernel
theorem dX0_copyFrom_221 : decode cX0_copyFrom 221 = .ok (.aload_n 0, 1) := by decide +kernel
theorem dX0_copyFrom_222 : decode cX0_copyFrom 222 = .ok (.aload_n 1, 1) := by decide +kernel
theorem dX0_copyFrom_223 : decode cX0_copyFrom 223 = .ok (.getfield 103, 3) := by decide +kernel
theorem dX0_copyFrom_226 : decode cX0_copyFrom 226 = .ok (.putfield 103, 3) := by decide +kernel
theorem dX0_copyFrom_229 : decode cX0_copyFrom 229 = .ok (.return_, 1) := by decide +kernel
theorem dX1_learnSlow_0 : decode cX1_learnSlow 0 = .ok (.iconst 0, 1) := by decide +kernel
theorem dX1_learnSlow_1 : decode cX1_learnSlow 1 = .ok (.istore_n 1, 1) := by decide +kernel
theorem dX1_learnSlow_2 : decode cX1_learnSlow 2 = .ok (.iload_n 1, 1) := by decide +kernel
theorem dX1_learnSlow_3 : decode cX1_learnSlow 3 = .ok (.aload_n 0, 1) := by decide +kernel
theorem dX1_learnSlow_4 : decode cX1_learnSlow 4 = .ok (.getfield 21, 3) := by decide +kernel
theorem dX1_learnSlow_7 : decode cX1_learnSlow 7 = .ok (.getfield 25, 3) := by decide +kernel
theorem dX1_learnSlow_10 : decode cX1_learnSlow 10 = .ok (.if_icmp .ge 23, 3) := by decide +kernel
theorem dX1_learnSlow_13 : decode cX1_learnSlow 13 = .ok (.aload_n 0, 1) := by decide +kernel
theorem dX1_learnSlow_14 : decode cX1_learnSlow 14 = .ok (.getfield 9, 3) := by decide +kernel
theorem dX1_learnSlow_17 : decode cX1_learnSlow 17 = .ok (.iload_n 1, 1) := by decide +kernel
theorem dX1_learnSlow_18 : decode cX1_learnSlow 18 = .ok (.aload_n 0, 1) := by decide +kernel
theorem dX1_learnSlow_19 : decode cX1_learnSlow 19 = .ok (.getfield 21, 3) := by decide +kernel
theorem dX1_learnSlow_22 : decode cX1_learnSlow 22 = .ok (.iload_n 1, 1) := by decide +kernel
theorem dX1_learnSlow_23 : decode cX1_learnSlow 23 = .ok (.invokevirtual 31, 3) := by decide +kernel
theorem dX1_learnSlow_26 : decode cX1_learnSlow 26 = .ok (.iastore, 1) := by decide +kernel
theorem dX1_learnSlow_27 : decode cX1_learnSlow 27 = .ok (.iinc 1 1, 3) := by decide +kernel
theorem dX1_learnSlow_30 : decode cX1_learnSlow 30 = .ok (.goto (-28), 3) := by decide +kernel
theorem dX1_learnSlow_33 : decode cX1_learnSlow 33 = .ok (.return_, 1) := by decide +kernel
theorem dX1_spread_0 : decode cX1_spread 0 = .ok (.iconst 0, 1) := by decide +kernel
theorem dX1_spread_1 : decode cX1_spread 1 = .ok (.istore 4, 2) := by decide +kernel
theorem dX1_spread_3 : decode cX1_spread 3 = .ok (.iload 4, 2) := by decide +kernel
theorem dX1_spread_5 : decode cX1_spread 5 = .ok (.bipush 8, 2) := by decide +kernel
theorem dX1_spread_7 : decode cX1_spread 7 = .ok (.if_icmp .ge 18, 3) := by decide +kernel
theorem dX1_spread_10 : decode cX1_spread 10 = .ok (.aload_n 0, 1) := by decide +kernel
theorem dX1_spread_11 : decode cX1_spread 11 = .ok (.getfield 15, 3) := by decide +kernel
theorem dX1_spread_14 : decode cX1_spread 14 = .ok (.iload 4, 2) := by decide +kernel
theorem dX1_spread_16 : decode cX1_spread 16 = .ok (.ldc 35, 2) := by decide +kernel
theorem dX1_spread_18 : decode cX1_spread 18 = .ok (.iastore, 1) := by decide +kernel
theorem dX1_spread_19 : decode cX1_spread 19 = .ok (.iinc 4 1, 3) := by decide +kernel
theorem dX1_spread_22 : decode cX1_spread 22 = .ok (.goto (-19), 3) := by decide +kernel
theorem dX1_spread_25 : decode cX1_spread 25 = .ok (.aload_n 0, 1) := by decide +kernel
theorem dX1_spread_26 : decode cX1_spread 26 = .ok (.iconst 0, 1) := by decide +kernel
theorem dX1_spread_27 : decode cX1_spread 27 = .ok (.putfield 36, 3) := by decide +kernel
theorem dX1_spread_30 : decode cX1_spread 30 = .ok (.aload_n 0, 1) := by decide +kernel
theorem dX1_spread_31 : decode cX1_spread 31 = .ok (.iload_n 1, 1) := by decide +kernel
theorem dX1_spread_32 : decode cX1_spread 32 = .ok (.iconst 0, 1) := by decide +kernel
theorem dX1_spread_33 : decode cX1_spread 33 = .ok (.iload_n 2, 1) := by decide +kernel
theorem dX1_spread_34 : decode cX1_spread 34 = .ok (.invokevirtual 39, 3) := by decide +kernel
theorem dX1_spread_37 : decode cX1_spread 37 = .ok (.iload_n 1, 1) := by decide +kernel
theorem dX1_spread_38 : decode cX1_spread 38 = .ok (.istore 4, 2) := by decide +kernel
theorem dX1_spread_40 : decode cX1_spread 40 = .ok (.iconst 0, 1) := by decide +kernel
theorem dX1_spread_41 : decode cX1_spread 41 = .ok (.istore 5, 2) := by decide +kernel
theorem dX1_spread_43 : decode cX1_spread 43 = .ok (.iload 5, 2) := by decide +kernel
theorem dX1_spread_45 : decode cX1_spread 45 = .ok (.bipush 8, 2) := by decide +kernel
theorem dX1_spread_47 : decode cX1_spread 47 = .ok (.if_icmp .ge 59, 3) := by decide +kernel
theorem dX1_spread_50 : decode cX1_spread 50 = .ok (.iload 4, 2) := by decide +kernel
theorem dX1_spread_52 : decode cX1_spread 52 = .ok (.ifCond .lt 54, 3) := by decide +kernel
theorem dX1_spread_55 : decode cX1_spread 55 = .ok (.aload_n 0, 1) := by decide +kernel
theorem dX1_spread_56 : decode cX1_spread 56 = .ok (.dup, 1) := by decide +kernel
theorem dX1_spread_57 : decode cX1_spread 57 = .ok (.getfield 36, 3) := by decide +kernel
theorem dX1_spread_60 : decode cX1_spread 60 = .ok (.iconst 1, 1) := by decide +kernel
theorem dX1_spread_61 : decode cX1_spread 61 = .ok (.iload 4, 2) := by decide +kernel
theorem dX1_spread_63 : decode cX1_spread 63 = .ok (.ishl, 1) := by decide +kernel
theorem dX1_spread_64 : decode cX1_spread 64 = .ok (.ior, 1) := by decide +kernel
theorem dX1_spread_65 : decode cX1_spread 65 = .ok (.putfield 36, 3) := by decide +kernel
theorem dX1_spread_68 : decode cX1_spread 68 = .ok (.aload_n 0, 1) := by decide +kernel
theorem dX1_spread_69 : decode cX1_spread 69 = .ok (.getfield 21, 3) := by decide +kernel
theorem dX1_spread_72 : decode cX1_spread 72 = .ok (.iload 4, 2) := by decide +kernel
theorem dX1_spread_74 : decode cX1_spread 74 = .ok (.aload_n 0, 1) := by decide +kernel
theorem dX1_spread_75 : decode cX1_spread 75 = .ok (.getfield 18, 3) := by decide +kernel
theorem dX1_spread_78 : decode cX1_spread 78 = .ok (.iload 4, 2) := by decide +kernel
theorem dX1_spread_80 : decode cX1_spread 80 = .ok (.iaload, 1) := by decide +kernel
theorem dX1_spread_81 : decode cX1_spread 81 = .ok (.invokevirtual 43, 3) := by decide +kernel
theorem dX1_spread_84 : decode cX1_spread 84 = .ok (.ifCond .eq 10, 3) := by decide +kernel
theorem dX1_spread_87 : decode cX1_spread 87 = .ok (.aload_n 0, 1) := by decide +kernel
theorem dX1_spread_88 : decode cX1_spread 88 = .ok (.iload 4, 2) := by decide +kernel
theorem dX1_spread_90 : decode cX1_spread 90 = .ok (.iload_n 3, 1) := by decide +kernel
theorem dX1_spread_91 : decode cX1_spread 91 = .ok (.invokevirtual 47, 3) := by decide +kernel
theorem dX1_spread_94 : decode cX1_spread 94 = .ok (.aload_n 0, 1) := by decide +kernel
theorem dX1_spread_95 : decode cX1_spread 95 = .ok (.invokevirtual 51, 3) := by decide +kernel
theorem dX1_spread_98 : decode cX1_spread 98 = .ok (.istore 4, 2) := by decide +kernel
theorem dX1_spread_100 : decode cX1_spread 100 = .ok (.iinc 5 1, 3) := by decide +kernel
theorem dX1_spread_103 : decode cX1_spread 103 = .ok (.goto (-60), 3) := by decide +kernel
theorem dX1_spread_106 : decode cX1_spread 106 = .ok (.return_, 1) := by decide +kernel
theorem dX1_isHeardAt_0 : decode cX1_isHeardAt 0 = .ok (.aload_n 0, 1) := by decide +kernel
theorem dX1_isHeardAt_1 : decode cX1_isHeardAt 1 = .ok (.getfield 15, 3) := by decide +kernel
theorem dX1_isHeardAt_4 : decode cX1_isHeardAt 4 = .ok (.iload_n 1, 1) := by decide +kernel
theorem dX1_isHeardAt_5 : decode cX1_isHeardAt 5 = .ok (.iaload, 1) := by decide +kernel
theorem dX1_isHeardAt_6 : decode cX1_isHeardAt 6 = .ok (.ldc 35, 2) := by decide +kernel
theorem dX1_isHeardAt_8 : decode cX1_isHeardAt 8 = .ok (.if_icmp .ge 7, 3) := by decide +kernel
theorem dX1_isHeardAt_11 : decode cX1_isHeardAt 11 = .ok (.iconst 1, 1) := by decide +kernel
theorem dX1_isHeardAt_12 : decode cX1_isHeardAt 12 = .ok (.goto 4, 3) := by decide +kernel
theorem dX1_isHeardAt_15 : decode cX1_isHeardAt 15 = .ok (.iconst 0, 1) := by decide +kernel
theorem dX1_isHeardAt_16 : decode cX1_isHeardAt 16 = .ok (.ireturn, 1) := by decide +kernel
theorem dX1_nextToHear_0 : decode cX1_nextToHear 0 = .ok (.iconst (-1), 1) := by decide +kernel
theorem dX1_nextToHear_1 : decode cX1_nextToHear 1 = .ok (.istore_n 1, 1) := by decide +kernel
theorem dX1_nextToHear_2 : decode cX1_nextToHear 2 = .ok (.iconst 0, 1) := by decide +kernel
theorem dX1_nextToHear_3 : decode cX1_nextToHear 3 = .ok (.istore_n 2, 1) := by decide +kernel
theorem dX1_nextToHear_4 : decode cX1_nextToHear 4 = .ok (.iload_n 2, 1) := by decide +kernel
theorem dX1_nextToHear_5 : decode cX1_nextToHear 5 = .ok (.aload_n 0, 1) := by decide +kernel
theorem dX1_nextToHear_6 : decode cX1_nextToHear 6 = .ok (.getfield 21, 3) := by decide +kernel
theorem dX1_nextToHear_9 : decode cX1_nextToHear 9 = .ok (.getfield 55, 3) := by decide +kernel
theorem dX1_nextToHear_12 : decode cX1_nextToHear 12 = .ok (.if_icmp .ge 52, 3) := by decide +kernel
theorem dX1_nextToHear_15 : decode cX1_nextToHear 15 = .ok (.aload_n 0, 1) := by decide +kernel
theorem dX1_nextToHear_16 : decode cX1_nextToHear 16 = .ok (.getfield 36, 3) := by decide +kernel
theorem dX1_nextToHear_19 : decode cX1_nextToHear 19 = .ok (.iload_n 2, 1) := by decide +kernel
theorem dX1_nextToHear_20 : decode cX1_nextToHear 20 = .ok (.ishr, 1) := by decide +kernel
theorem dX1_nextToHear_21 : decode cX1_nextToHear 21 = .ok (.iconst 1, 1) := by decide +kernel
theorem dX1_nextToHear_22 : decode cX1_nextToHear 22 = .ok (.iand, 1) := by decide +kernel
theorem dX1_nextToHear_23 : decode cX1_nextToHear 23 = .ok (.ifCond .ne 35, 3) := by decide +kernel
theorem dX1_nextToHear_26 : decode cX1_nextToHear 26 = .ok (.aload_n 0, 1) := by decide +kernel
theorem dX1_nextToHear_27 : decode cX1_nextToHear 27 = .ok (.iload_n 2, 1) := by decide +kernel
theorem dX1_nextToHear_28 : decode cX1_nextToHear 28 = .ok (.invokevirtual 58, 3) := by decide +kernel
theorem dX1_nextToHear_31 : decode cX1_nextToHear 31 = .ok (.ifCond .ne 6, 3) := by decide +kernel
theorem dX1_nextToHear_34 : decode cX1_nextToHear 34 = .ok (.goto 24, 3) := by decide +kernel
theorem dX1_nextToHear_37 : decode cX1_nextToHear 37 = .ok (.iload_n 1, 1) := by decide +kernel
theorem dX1_nextToHear_38 : decode cX1_nextToHear 38 = .ok (.ifCond .lt 18, 3) := by decide +kernel
theorem dX1_nextToHear_41 : decode cX1_nextToHear 41 = .ok (.aload_n 0, 1) := by decide +kernel
theorem dX1_nextToHear_42 : decode cX1_nextToHear 42 = .ok (.getfield 15, 3) := by decide +kernel
theorem dX1_nextToHear_45 : decode cX1_nextToHear 45 = .ok (.iload_n 2, 1) := by decide +kernel
theorem dX1_nextToHear_46 : decode cX1_nextToHear 46 = .ok (.iaload, 1) := by decide +kernel
theorem dX1_nextToHear_47 : decode cX1_nextToHear 47 = .ok (.aload_n 0, 1) := by decide +kernel
theorem dX1_nextToHear_48 : decode cX1_nextToHear 48 = .ok (.getfield 15, 3) := by decide +kernel
theorem dX1_nextToHear_51 : decode cX1_nextToHear 51 = .ok (.iload_n 1, 1) := by decide +kernel
theorem dX1_nextToHear_52 : decode cX1_nextToHear 52 = .ok (.iaload, 1) := by decide +kernel
theorem dX1_nextToHear_53 : decode cX1_nextToHear 53 = .ok (.if_icmp .ge 5, 3) := by decide +kernel
theorem dX1_nextToHear_56 : decode cX1_nextToHear 56 = .ok (.iload_n 2, 1) := by decide +kernel
theorem dX1_nextToHear_57 : decode cX1_nextToHear 57 = .ok (.istore_n 1, 1) := by decide +kernel
theorem dX1_nextToHear_58 : decode cX1_nextToHear 58 = .ok (.iinc 2 1, 3) := by decide +kernel
theorem dX1_nextToHear_61 : decode cX1_nextToHear 61 = .ok (.goto (-57), 3) := by decide +kernel
theorem dX1_nextToHear_64 : decode cX1_nextToHear 64 = .ok (.iload_n 1, 1) := by decide +kernel
theorem dX1_nextToHear_65 : decode cX1_nextToHear 65 = .ok (.ireturn, 1) := by decide +kernel
theorem dX1_sayOver_0 : decode cX1_sayOver 0 = .ok (.aload_n 0, 1) := by decide +kernel
theorem dX1_sayOver_1 : decode cX1_sayOver 1 = .ok (.getfield 21, 3) := by decide +kernel
theorem dX1_sayOver_4 : decode cX1_sayOver 4 = .ok (.iload_n 1, 1) := by decide +kernel
theorem dX1_sayOver_5 : decode cX1_sayOver 5 = .ok (.aload_n 0, 1) := by decide +kernel
theorem dX1_sayOver_6 : decode cX1_sayOver 6 = .ok (.getfield 18, 3) := by decide +kernel
theorem dX1_sayOver_9 : decode cX1_sayOver 9 = .ok (.iload_n 1, 1) := by decide +kernel
theorem dX1_sayOver_10 : decode cX1_sayOver 10 = .ok (.iaload, 1) := by decide +kernel
theorem dX1_sayOver_11 : decode cX1_sayOver 11 = .ok (.invokevirtual 62, 3) := by decide +kernel
theorem dX1_sayOver_14 : decode cX1_sayOver 14 = .ok (.istore_n 3, 1) := by decide +kernel
theorem dX1_sayOver_15 : decode cX1_sayOver 15 = .ok (.iconst 0, 1) := by decide +kernel
theorem dX1_sayOver_16 : decode cX1_sayOver 16 = .ok (.istore 4, 2) := by decide +kernel
theorem dX1_sayOver_18 : decode cX1_sayOver 18 = .ok (.iload 4, 2) := by decide +kernel
theorem dX1_sayOver_20 : decode cX1_sayOver 20 = .ok (.aload_n 0, 1) := by decide +kernel
theorem dX1_sayOver_21 : decode cX1_sayOver 21 = .ok (.getfield 21, 3) := by decide +kernel
theorem dX1_sayOver_24 : decode cX1_sayOver 24 = .ok (.getfield 25, 3) := by decide +kernel
theorem dX1_sayOver_27 : decode cX1_sayOver 27 = .ok (.if_icmp .ge 61, 3) := by decide +kernel
theorem dX1_sayOver_30 : decode cX1_sayOver 30 = .ok (.iload_n 2, 1) := by decide +kernel
theorem dX1_sayOver_31 : decode cX1_sayOver 31 = .ok (.iload 4, 2) := by decide +kernel
theorem dX1_sayOver_33 : decode cX1_sayOver 33 = .ok (.ishr, 1) := by decide +kernel
theorem dX1_sayOver_34 : decode cX1_sayOver 34 = .ok (.iconst 1, 1) := by decide +kernel
theorem dX1_sayOver_35 : decode cX1_sayOver 35 = .ok (.iand, 1) := by decide +kernel
theorem dX1_sayOver_36 : decode cX1_sayOver 36 = .ok (.ifCond .eq 46, 3) := by decide +kernel
theorem dX1_sayOver_39 : decode cX1_sayOver 39 = .ok (.aload_n 0, 1) := by decide +kernel
theorem dX1_sayOver_40 : decode cX1_sayOver 40 = .ok (.getfield 21, 3) := by decide +kernel
theorem dX1_sayOver_43 : decode cX1_sayOver 43 = .ok (.getfield 66, 3) := by decide +kernel
theorem dX1_sayOver_46 : decode cX1_sayOver 46 = .ok (.iload 4, 2) := by decide +kernel
theorem dX1_sayOver_48 : decode cX1_sayOver 48 = .ok (.iaload, 1) := by decide +kernel
theorem dX1_sayOver_49 : decode cX1_sayOver 49 = .ok (.iload_n 1, 1) := by decide +kernel
theorem dX1_sayOver_50 : decode cX1_sayOver 50 = .ok (.if_icmp .ne 32, 3) := by decide +kernel
theorem dX1_sayOver_53 : decode cX1_sayOver 53 = .ok (.aload_n 0, 1) := by decide +kernel
theorem dX1_sayOver_54 : decode cX1_sayOver 54 = .ok (.aload_n 0, 1) := by decide +kernel
theorem dX1_sayOver_55 : decode cX1_sayOver 55 = .ok (.getfield 21, 3) := by decide +kernel
theorem dX1_sayOver_58 : decode cX1_sayOver 58 = .ok (.getfield 69, 3) := by decide +kernel
theorem dX1_sayOver_61 : decode cX1_sayOver 61 = .ok (.iload 4, 2) := by decide +kernel
theorem dX1_sayOver_63 : decode cX1_sayOver 63 = .ok (.iaload, 1) := by decide +kernel
theorem dX1_sayOver_64 : decode cX1_sayOver 64 = .ok (.aload_n 0, 1) := by decide +kernel
theorem dX1_sayOver_65 : decode cX1_sayOver 65 = .ok (.getfield 15, 3) := by decide +kernel
theorem dX1_sayOver_68 : decode cX1_sayOver 68 = .ok (.iload_n 1, 1) := by decide +kernel
theorem dX1_sayOver_69 : decode cX1_sayOver 69 = .ok (.iaload, 1) := by decide +kernel
theorem dX1_sayOver_70 : decode cX1_sayOver 70 = .ok (.aload_n 0, 1) := by decide +kernel
theorem dX1_sayOver_71 : decode cX1_sayOver 71 = .ok (.getfield 9, 3) := by decide +kernel
theorem dX1_sayOver_74 : decode cX1_sayOver 74 = .ok (.iload 4, 2) := by decide +kernel
theorem dX1_sayOver_76 : decode cX1_sayOver 76 = .ok (.iaload, 1) := by decide +kernel
theorem dX1_sayOver_77 : decode cX1_sayOver 77 = .ok (.iadd, 1) := by decide +kernel
theorem dX1_sayOver_78 : decode cX1_sayOver 78 = .ok (.iload_n 3, 1) := by decide +kernel
theorem dX1_sayOver_79 : decode cX1_sayOver 79 = .ok (.invokevirtual 39, 3) := by decide +kernel
theorem dX1_sayOver_82 : decode cX1_sayOver 82 = .ok (.iinc 4 1, 3) := by decide +kernel
theorem dX1_sayOver_85 : decode cX1_sayOver 85 = .ok (.goto (-67), 3) := by decide +kernel
theorem dX1_sayOver_88 : decode cX1_sayOver 88 = .ok (.return_, 1) := by decide +kernel
theorem dX1_arrive_0 : decode cX1_arrive 0 = .ok (.iload_n 2, 1) := by decide +kernel
theorem dX1_arrive_1 : decode cX1_arrive 1 = .ok (.aload_n 0, 1) := by decide +kernel
theorem dX1_arrive_2 : decode cX1_arrive 2 = .ok (.getfield 15, 3) := by decide +kernel
theorem dX1_arrive_5 : decode cX1_arrive 5 = .ok (.iload_n 1, 1) := by decide +kernel
theorem dX1_arrive_6 : decode cX1_arrive 6 = .ok (.iaload, 1) := by decide +kernel
theorem dX1_arrive_7 : decode cX1_arrive 7 = .ok (.if_icmp .ge 20, 3) := by decide +kernel
theorem dX1_arrive_10 : decode cX1_arrive 10 = .ok (.aload_n 0, 1) := by decide +kernel
theorem dX1_arrive_11 : decode cX1_arrive 11 = .ok (.getfield 15, 3) := by decide +kernel
theorem dX1_arrive_14 : decode cX1_arrive 14 = .ok (.iload_n 1, 1) := by decide +kernel
theorem dX1_arrive_15 : decode cX1_arrive 15 = .ok (.iload_n 2, 1) := by decide +kernel
theorem dX1_arrive_16 : decode cX1_arrive 16 = .ok (.iastore, 1) := by decide +kernel
theorem dX1_arrive_17 : decode cX1_arrive 17 = .ok (.aload_n 0, 1) := by decide +kernel
theorem dX1_arrive_18 : decode cX1_arrive 18 = .ok (.getfield 18, 3) := by decide +kernel
theorem dX1_arrive_21 : decode cX1_arrive 21 = .ok (.iload_n 1, 1) := by decide +kernel
theorem dX1_arrive_22 : decode cX1_arrive 22 = .ok (.iload_n 3, 1) := by decide +kernel
theorem dX1_arrive_23 : decode cX1_arrive 23 = .ok (.iastore, 1) := by decide +kernel
theorem dX1_arrive_24 : decode cX1_arrive 24 = .ok (.goto 29, 3) := by decide +kernel
theorem dX1_arrive_27 : decode cX1_arrive 27 = .ok (.iload_n 2, 1) := by decide +kernel
theorem dX1_arrive_28 : decode cX1_arrive 28 = .ok (.aload_n 0, 1) := by decide +kernel
theorem dX1_arrive_29 : decode cX1_arrive 29 = .ok (.getfield 15, 3) := by decide +kernel
theorem dX1_arrive_32 : decode cX1_arrive 32 = .ok (.iload_n 1, 1) := by decide +kernel
theorem dX1_arrive_33 : decode cX1_arrive 33 = .ok (.iaload, 1) := by decide +kernel
theorem dX1_arrive_34 : decode cX1_arrive 34 = .ok (.if_icmp .ne 19, 3) := by decide +kernel
theorem dX1_arrive_37 : decode cX1_arrive 37 = .ok (.aload_n 0, 1) := by decide +kernel
theorem dX1_arrive_38 : decode cX1_arrive 38 = .ok (.getfield 18, 3) := by decide +kernel
theorem dX1_arrive_41 : decode cX1_arrive 41 = .ok (.iload_n 1, 1) := by decide +kernel
theorem dX1_arrive_42 : decode cX1_arrive 42 = .ok (.aload_n 0, 1) := by decide +kernel
theorem dX1_arrive_43 : decode cX1_arrive 43 = .ok (.getfield 18, 3) := by decide +kernel
theorem dX1_arrive_46 : decode cX1_arrive 46 = .ok (.iload_n 1, 1) := by decide +kernel
theorem dX1_arrive_47 : decode cX1_arrive 47 = .ok (.iaload, 1) := by decide +kernel
theorem dX1_arrive_48 : decode cX1_arrive 48 = .ok (.iload_n 3, 1) := by decide +kernel
theorem dX1_arrive_49 : decode cX1_arrive 49 = .ok (.invokestatic 72, 3) := by decide +kernel
theorem dX1_arrive_52 : decode cX1_arrive 52 = .ok (.iastore, 1) := by decide +kernel
theorem dX1_arrive_53 : decode cX1_arrive 53 = .ok (.return_, 1) := by decide +kernel
theorem dX2_begin_0 : decode cX2_begin 0 = .ok (.aload_n 0, 1) := by decide +kernel
theorem dX2_begin_1 : decode cX2_begin 1 = .ok (.iload_n 1, 1) := by decide +kernel
theorem dX2_begin_2 : decode cX2_begin 2 = .ok (.putfield 15, 3) := by decide +kernel
theorem dX2_begin_5 : decode cX2_begin 5 = .ok (.aload_n 0, 1) := by decide +kernel
theorem dX2_begin_6 : decode cX2_begin 6 = .ok (.iload_n 2, 1) := by decide +kernel
theorem dX2_begin_7 : decode cX2_begin 7 = .ok (.putfield 19, 3) := by decide +kernel
theorem dX2_begin_10 : decode cX2_begin 10 = .ok (.iconst 0, 1) := by decide +kernel
theorem dX2_begin_11 : decode cX2_begin 11 = .ok (.istore_n 3, 1) := by decide +kernel
theorem dX2_begin_12 : decode cX2_begin 12 = .ok (.iload_n 3, 1) := by decide +kernel
theorem dX2_begin_13 : decode cX2_begin 13 = .ok (.bipush 24, 2) := by decide +kernel
theorem dX2_begin_15 : decode cX2_begin 15 = .ok (.if_icmp .ge 16, 3) := by decide +kernel
theorem dX2_begin_18 : decode cX2_begin 18 = .ok (.aload_n 0, 1) := by decide +kernel
theorem dX2_begin_19 : decode cX2_begin 19 = .ok (.getfield 9, 3) := by decide +kernel
theorem dX2_begin_22 : decode cX2_begin 22 = .ok (.iload_n 3, 1) := by decide +kernel
theorem dX2_begin_23 : decode cX2_begin 23 = .ok (.iconst 0, 1) := by decide +kernel
theorem dX2_begin_24 : decode cX2_begin 24 = .ok (.iastore, 1) := by decide +kernel
theorem dX2_begin_25 : decode cX2_begin 25 = .ok (.iinc 3 1, 3) := by decide +kernel
theorem dX2_begin_28 : decode cX2_begin 28 = .ok (.goto (-16), 3) := by decide +kernel
theorem dX2_begin_31 : decode cX2_begin 31 = .ok (.return_, 1) := by decide +kernel
theorem dX2_isMissing_0 : decode cX2_isMissing 0 = .ok (.aload_n 0, 1) := by decide +kernel
theorem dX2_isMissing_1 : decode cX2_isMissing 1 = .ok (.getfield 15, 3) := by decide +kernel
theorem dX2_isMissing_4 : decode cX2_isMissing 4 = .ok (.ifCond .ne 7, 3) := by decide +kernel
theorem dX2_isMissing_7 : decode cX2_isMissing 7 = .ok (.iconst 1, 1) := by decide +kernel
theorem dX2_isMissing_8 : decode cX2_isMissing 8 = .ok (.goto 4, 3) := by decide +kernel
theorem dX2_isMissing_11 : decode cX2_isMissing 11 = .ok (.iconst 0, 1) := by decide +kernel
theorem dX2_isMissing_12 : decode cX2_isMissing 12 = .ok (.ireturn, 1) := by decide +kernel
theorem dX2_has_0 : decode cX2_has 0 = .ok (.iload_n 2, 1) := by decide +kernel
theorem dX2_has_1 : decode cX2_has 1 = .ok (.ifCond .lt 21, 3) := by decide +kernel
theorem dX2_has_4 : decode cX2_has 4 = .ok (.iload_n 1, 1) := by decide +kernel
theorem dX2_has_5 : decode cX2_has 5 = .ok (.ifCond .lt 17, 3) := by decide +kernel
theorem dX2_has_8 : decode cX2_has 8 = .ok (.iload_n 2, 1) := by decide +kernel
theorem dX2_has_9 : decode cX2_has 9 = .ok (.aload_n 0, 1) := by decide +kernel
theorem dX2_has_10 : decode cX2_has 10 = .ok (.getfield 19, 3) := by decide +kernel
theorem dX2_has_13 : decode cX2_has 13 = .ok (.iload_n 1, 1) := by decide +kernel
theorem dX2_has_14 : decode cX2_has 14 = .ok (.isub, 1) := by decide +kernel
theorem dX2_has_15 : decode cX2_has 15 = .ok (.if_icmp .gt 7, 3) := by decide +kernel
theorem dX2_has_18 : decode cX2_has 18 = .ok (.iconst 1, 1) := by decide +kernel
theorem dX2_has_19 : decode cX2_has 19 = .ok (.goto 4, 3) := by decide +kernel
theorem dX2_has_22 : decode cX2_has 22 = .ok (.iconst 0, 1) := by decide +kernel
theorem dX2_has_23 : decode cX2_has 23 = .ok (.ireturn, 1) := by decide +kernel
theorem dX2_lowestBits_0 : decode cX2_lowestBits 0 = .ok (.aload_n 0, 1) := by decide +kernel
theorem dX2_lowestBits_1 : decode cX2_lowestBits 1 = .ok (.getfield 15, 3) := by decide +kernel
theorem dX2_lowestBits_4 : decode cX2_lowestBits 4 = .ok (.bipush 8, 2) := by decide +kernel
theorem dX2_lowestBits_6 : decode cX2_lowestBits 6 = .ok (.if_icmp .ne 6, 3) := by decide +kernel
theorem dX2_lowestBits_9 : decode cX2_lowestBits 9 = .ok (.iload_n 1, 1) := by decide +kernel
theorem dX2_lowestBits_10 : decode cX2_lowestBits 10 = .ok (.i2b, 1) := by decide +kernel
theorem dX2_lowestBits_11 : decode cX2_lowestBits 11 = .ok (.ireturn, 1) := by decide +kernel
theorem dX2_lowestBits_12 : decode cX2_lowestBits 12 = .ok (.aload_n 0, 1) := by decide +kernel
theorem dX2_lowestBits_13 : decode cX2_lowestBits 13 = .ok (.getfield 15, 3) := by decide +kernel
theorem dX2_lowestBits_16 : decode cX2_lowestBits 16 = .ok (.bipush 16, 2) := by decide +kernel
theorem dX2_lowestBits_18 : decode cX2_lowestBits 18 = .ok (.if_icmp .ne 6, 3) := by decide +kernel
theorem dX2_lowestBits_21 : decode cX2_lowestBits 21 = .ok (.iload_n 1, 1) := by decide +kernel
theorem dX2_lowestBits_22 : decode cX2_lowestBits 22 = .ok (.i2s, 1) := by decide +kernel
theorem dX2_lowestBits_23 : decode cX2_lowestBits 23 = .ok (.ireturn, 1) := by decide +kernel
theorem dX2_lowestBits_24 : decode cX2_lowestBits 24 = .ok (.iload_n 1, 1) := by decide +kernel
theorem dX2_lowestBits_25 : decode cX2_lowestBits 25 = .ok (.ireturn, 1) := by decide +kernel
theorem dX3_answer_0 : decode cX3_answer 0 = .ok (.aload_n 0, 1) := by decide +kernel
theorem dX3_answer_1 : decode cX3_answer 1 = .ok (.aload_n 1, 1) := by decide +kernel
theorem dX3_answer_2 : decode cX3_answer 2 = .ok (.getfield 15, 3) := by decide +kernel
theorem dX3_answer_5 : decode cX3_answer 5 = .ok (.iload_n 2, 1) := by decide +kernel
theorem dX3_answer_6 : decode cX3_answer 6 = .ok (.iaload, 1) := by decide +kernel
theorem dX3_answer_7 : decode cX3_answer 7 = .ok (.putfield 20, 3) := by decide +kernel
theorem dX3_answer_10 : decode cX3_answer 10 = .ok (.aload_n 0, 1) := by decide +kernel
theorem dX3_answer_11 : decode cX3_answer 11 = .ok (.iload_n 2, 1) := by decide +kernel
theorem dX3_answer_12 : decode cX3_answer 12 = .ok (.putfield 23, 3) := by decide +kernel
theorem dX3_answer_15 : decode cX3_answer 15 = .ok (.aload_n 0, 1) := by decide +kernel
theorem dX3_answer_16 : decode cX3_answer 16 = .ok (.aload_n 1, 1) := by decide +kernel
theorem dX3_answer_17 : decode cX3_answer 17 = .ok (.getfield 26, 3) := by decide +kernel
theorem dX3_answer_20 : decode cX3_answer 20 = .ok (.iload_n 2, 1) := by decide +kernel
theorem dX3_answer_21 : decode cX3_answer 21 = .ok (.iaload, 1) := by decide +kernel
theorem dX3_answer_22 : decode cX3_answer 22 = .ok (.putfield 29, 3) := by decide +kernel
theorem dX3_answer_25 : decode cX3_answer 25 = .ok (.aload_n 0, 1) := by decide +kernel
theorem dX3_answer_26 : decode cX3_answer 26 = .ok (.iconst 0, 1) := by decide +kernel
theorem dX3_answer_27 : decode cX3_answer 27 = .ok (.putfield 31, 3) := by decide +kernel
theorem dX3_answer_30 : decode cX3_answer 30 = .ok (.aload_n 0, 1) := by decide +kernel
theorem dX3_answer_31 : decode cX3_answer 31 = .ok (.iconst 0, 1) := by decide +kernel
theorem dX3_answer_32 : decode cX3_answer 32 = .ok (.putfield 35, 3) := by decide +kernel
theorem dX3_answer_35 : decode cX3_answer 35 = .ok (.aload_n 0, 1) := by decide +kernel
theorem dX3_answer_36 : decode cX3_answer 36 = .ok (.aload_n 0, 1) := by decide +kernel
theorem dX3_answer_37 : decode cX3_answer 37 = .ok (.getfield 20, 3) := by decide +kernel
theorem dX3_answer_40 : decode cX3_answer 40 = .ok (.iload_n 3, 1) := by decide +kernel
theorem dX3_answer_41 : decode cX3_answer 41 = .ok (.iload 4, 2) := by decide +kernel
theorem dX3_answer_43 : decode cX3_answer 43 = .ok (.iconst 0, 1) := by decide +kernel
theorem dX3_answer_44 : decode cX3_answer 44 = .ok (.invokevirtual 38, 3) := by decide +kernel
theorem dX3_answer_47 : decode cX3_answer 47 = .ok (.ireturn, 1) := by decide +kernel
theorem dX3_speak_0 : decode cX3_speak 0 = .ok (.aload_n 0, 1) := by decide +kernel
theorem dX3_speak_1 : decode cX3_speak 1 = .ok (.getfield 31, 3) := by decide +kernel
theorem dX3_speak_4 : decode cX3_speak 4 = .ok (.ifCond .ne 10, 3) := by decide +kernel
theorem dX3_speak_7 : decode cX3_speak 7 = .ok (.iload 4, 2) := by decide +kernel
theorem dX3_speak_9 : decode cX3_speak 9 = .ok (.bipush 20, 2) := by decide +kernel
theorem dX3_speak_11 : decode cX3_speak 11 = .ok (.if_icmp .lt 5, 3) := by decide +kernel
theorem dX3_speak_14 : decode cX3_speak 14 = .ok (.iconst 0, 1) := by decide +kernel
theorem dX3_speak_15 : decode cX3_speak 15 = .ok (.ireturn, 1) := by decide +kernel
theorem dX3_speak_16 : decode cX3_speak 16 = .ok (.iload_n 1, 1) := by decide +kernel
theorem dX3_speak_17 : decode cX3_speak 17 = .ok (.istore 5, 2) := by decide +kernel
theorem dX3_speak_19 : decode cX3_speak 19 = .ok (.iconst 0, 1) := by decide +kernel
theorem dX3_speak_20 : decode cX3_speak 20 = .ok (.istore 6, 2) := by decide +kernel
theorem dX3_speak_22 : decode cX3_speak 22 = .ok (.iload 6, 2) := by decide +kernel
theorem dX3_speak_24 : decode cX3_speak 24 = .ok (.bipush 7, 2) := by decide +kernel
theorem dX3_speak_26 : decode cX3_speak 26 = .ok (.if_icmp .ge 30, 3) := by decide +kernel
theorem dX3_speak_29 : decode cX3_speak 29 = .ok (.getstatic 42, 3) := by decide +kernel
theorem dX3_speak_32 : decode cX3_speak 32 = .ok (.iconst 4, 1) := by decide +kernel
theorem dX3_speak_33 : decode cX3_speak 33 = .ok (.iload 5, 2) := by decide +kernel
theorem dX3_speak_35 : decode cX3_speak 35 = .ok (.imul, 1) := by decide +kernel
theorem dX3_speak_36 : decode cX3_speak 36 = .ok (.iload_n 2, 1) := by decide +kernel
theorem dX3_speak_37 : decode cX3_speak 37 = .ok (.iadd, 1) := by decide +kernel
theorem dX3_speak_38 : decode cX3_speak 38 = .ok (.iaload, 1) := by decide +kernel
theorem dX3_speak_39 : decode cX3_speak 39 = .ok (.ifCond .ne 17, 3) := by decide +kernel
theorem dX3_speak_42 : decode cX3_speak 42 = .ok (.getstatic 45, 3) := by decide +kernel
theorem dX3_speak_45 : decode cX3_speak 45 = .ok (.iload 5, 2) := by decide +kernel
theorem dX3_speak_47 : decode cX3_speak 47 = .ok (.iaload, 1) := by decide +kernel
theorem dX3_speak_48 : decode cX3_speak 48 = .ok (.istore 5, 2) := by decide +kernel
theorem dX3_speak_50 : decode cX3_speak 50 = .ok (.iinc 6 1, 3) := by decide +kernel
theorem dX3_speak_53 : decode cX3_speak 53 = .ok (.goto (-31), 3) := by decide +kernel
theorem dX3_speak_56 : decode cX3_speak 56 = .ok (.getstatic 42, 3) := by decide +kernel
theorem dX3_speak_59 : decode cX3_speak 59 = .ok (.iconst 4, 1) := by decide +kernel
theorem dX3_speak_60 : decode cX3_speak 60 = .ok (.iload 5, 2) := by decide +kernel
theorem dX3_speak_62 : decode cX3_speak 62 = .ok (.imul, 1) := by decide +kernel
theorem dX3_speak_63 : decode cX3_speak 63 = .ok (.iload_n 2, 1) := by decide +kernel
theorem dX3_speak_64 : decode cX3_speak 64 = .ok (.iadd, 1) := by decide +kernel
theorem dX3_speak_65 : decode cX3_speak 65 = .ok (.iaload, 1) := by decide +kernel
theorem dX3_speak_66 : decode cX3_speak 66 = .ok (.istore 6, 2) := by decide +kernel
theorem dX3_speak_68 : decode cX3_speak 68 = .ok (.aload_n 0, 1) := by decide +kernel
theorem dX3_speak_69 : decode cX3_speak 69 = .ok (.iload 6, 2) := by decide +kernel
theorem dX3_speak_71 : decode cX3_speak 71 = .ok (.invokevirtual 48, 3) := by decide +kernel
theorem dX3_speak_74 : decode cX3_speak 74 = .ok (.getstatic 45, 3) := by decide +kernel
theorem dX3_speak_77 : decode cX3_speak 77 = .ok (.iload 5, 2) := by decide +kernel
theorem dX3_speak_79 : decode cX3_speak 79 = .ok (.iaload, 1) := by decide +kernel
theorem dX3_speak_80 : decode cX3_speak 80 = .ok (.istore 7, 2) := by decide +kernel
theorem dX3_speak_82 : decode cX3_speak 82 = .ok (.iload 4, 2) := by decide +kernel
theorem dX3_speak_84 : decode cX3_speak 84 = .ok (.iconst 1, 1) := by decide +kernel
theorem dX3_speak_85 : decode cX3_speak 85 = .ok (.iadd, 1) := by decide +kernel
theorem dX3_speak_86 : decode cX3_speak 86 = .ok (.istore 8, 2) := by decide +kernel
theorem dX3_speak_88 : decode cX3_speak 88 = .ok (.iload 6, 2) := by decide +kernel
theorem dX3_speak_90 : decode cX3_speak 90 = .ok (.lookupswitch 284 #[(10, 114), (11, 121), (12, 136), (13, 154), (20, 160), (21, 173), (30, 197), (40, 210), (50, 223), (51, 236), (60, 252), (70, 265), (71, 268)], 114) := by decide +kernel
theorem dX3_speak_204 : decode cX3_speak 204 = .ok (.iload_n 3, 1) := by decide +kernel
theorem dX3_speak_205 : decode cX3_speak 205 = .ok (.aload_n 0, 1) := by decide +kernel
theorem dX3_speak_206 : decode cX3_speak 206 = .ok (.getfield 23, 3) := by decide +kernel
theorem dX3_speak_209 : decode cX3_speak 209 = .ok (.iadd, 1) := by decide +kernel
theorem dX3_speak_210 : decode cX3_speak 210 = .ok (.ireturn, 1) := by decide +kernel
theorem dX3_speak_211 : decode cX3_speak 211 = .ok (.aload_n 0, 1) := by decide +kernel
theorem dX3_speak_212 : decode cX3_speak 212 = .ok (.aload_n 0, 1) := by decide +kernel
theorem dX3_speak_213 : decode cX3_speak 213 = .ok (.getfield 20, 3) := by decide +kernel
theorem dX3_speak_216 : decode cX3_speak 216 = .ok (.iconst 0, 1) := by decide +kernel
theorem dX3_speak_217 : decode cX3_speak 217 = .ok (.iload_n 3, 1) := by decide +kernel
theorem dX3_speak_218 : decode cX3_speak 218 = .ok (.iload 8, 2) := by decide +kernel
theorem dX3_speak_220 : decode cX3_speak 220 = .ok (.invokevirtual 38, 3) := by decide +kernel
theorem dX3_speak_223 : decode cX3_speak 223 = .ok (.iconst 2, 1) := by decide +kernel
theorem dX3_speak_224 : decode cX3_speak 224 = .ok (.imul, 1) := by decide +kernel
theorem dX3_speak_225 : decode cX3_speak 225 = .ok (.ireturn, 1) := by decide +kernel
theorem dX3_speak_226 : decode cX3_speak 226 = .ok (.aload_n 0, 1) := by decide +kernel
theorem dX3_speak_227 : decode cX3_speak 227 = .ok (.aload_n 0, 1) := by decide +kernel
theorem dX3_speak_228 : decode cX3_speak 228 = .ok (.getfield 20, 3) := by decide +kernel
theorem dX3_speak_231 : decode cX3_speak 231 = .ok (.iconst 1, 1) := by decide +kernel
theorem dX3_speak_232 : decode cX3_speak 232 = .ok (.iload_n 3, 1) := by decide +kernel
theorem dX3_speak_233 : decode cX3_speak 233 = .ok (.iload 8, 2) := by decide +kernel
theorem dX3_speak_235 : decode cX3_speak 235 = .ok (.invokevirtual 38, 3) := by decide +kernel
theorem dX3_speak_238 : decode cX3_speak 238 = .ok (.aload_n 0, 1) := by decide +kernel
theorem dX3_speak_239 : decode cX3_speak 239 = .ok (.getfield 29, 3) := by decide +kernel
theorem dX3_speak_242 : decode cX3_speak 242 = .ok (.isub, 1) := by decide +kernel
theorem dX3_speak_243 : decode cX3_speak 243 = .ok (.ireturn, 1) := by decide +kernel
theorem dX3_speak_244 : decode cX3_speak 244 = .ok (.aload_n 0, 1) := by decide +kernel
theorem dX3_speak_245 : decode cX3_speak 245 = .ok (.iload_n 3, 1) := by decide +kernel
theorem dX3_speak_246 : decode cX3_speak 246 = .ok (.invokevirtual 52, 3) := by decide +kernel
theorem dX3_speak_249 : decode cX3_speak 249 = .ok (.ireturn, 1) := by decide +kernel
theorem dX3_speak_250 : decode cX3_speak 250 = .ok (.aload_n 0, 1) := by decide +kernel
theorem dX3_speak_251 : decode cX3_speak 251 = .ok (.iload 7, 2) := by decide +kernel
theorem dX3_speak_253 : decode cX3_speak 253 = .ok (.iconst 0, 1) := by decide +kernel
theorem dX3_speak_254 : decode cX3_speak 254 = .ok (.iload_n 3, 1) := by decide +kernel
theorem dX3_speak_255 : decode cX3_speak 255 = .ok (.iload 8, 2) := by decide +kernel
theorem dX3_speak_257 : decode cX3_speak 257 = .ok (.invokevirtual 38, 3) := by decide +kernel
theorem dX3_speak_260 : decode cX3_speak 260 = .ok (.iconst 4, 1) := by decide +kernel
theorem dX3_speak_261 : decode cX3_speak 261 = .ok (.isub, 1) := by decide +kernel
theorem dX3_speak_262 : decode cX3_speak 262 = .ok (.ireturn, 1) := by decide +kernel
theorem dX3_speak_263 : decode cX3_speak 263 = .ok (.aload_n 0, 1) := by decide +kernel
theorem dX3_speak_264 : decode cX3_speak 264 = .ok (.iload 7, 2) := by decide +kernel
theorem dX3_speak_266 : decode cX3_speak 266 = .ok (.iconst 3, 1) := by decide +kernel
theorem dX3_speak_267 : decode cX3_speak 267 = .ok (.iload_n 3, 1) := by decide +kernel
theorem dX3_speak_268 : decode cX3_speak 268 = .ok (.iload 8, 2) := by decide +kernel
theorem dX3_speak_270 : decode cX3_speak 270 = .ok (.invokevirtual 38, 3) := by decide +kernel
theorem dX3_speak_273 : decode cX3_speak 273 = .ok (.aload_n 0, 1) := by decide +kernel
theorem dX3_speak_274 : decode cX3_speak 274 = .ok (.aload_n 0, 1) := by decide +kernel
theorem dX3_speak_275 : decode cX3_speak 275 = .ok (.getfield 20, 3) := by decide +kernel
theorem dX3_speak_278 : decode cX3_speak 278 = .ok (.iconst 1, 1) := by decide +kernel
theorem dX3_speak_279 : decode cX3_speak 279 = .ok (.iconst 1, 1) := by decide +kernel
theorem dX3_speak_280 : decode cX3_speak 280 = .ok (.iload 8, 2) := by decide +kernel
theorem dX3_speak_282 : decode cX3_speak 282 = .ok (.invokevirtual 38, 3) := by decide +kernel
theorem dX3_speak_285 : decode cX3_speak 285 = .ok (.iadd, 1) := by decide +kernel
theorem dX3_speak_286 : decode cX3_speak 286 = .ok (.ireturn, 1) := by decide +kernel
theorem dX3_speak_287 : decode cX3_speak 287 = .ok (.iconst 0, 1) := by decide +kernel
theorem dX3_speak_288 : decode cX3_speak 288 = .ok (.aload_n 0, 1) := by decide +kernel
theorem dX3_speak_289 : decode cX3_speak 289 = .ok (.iload 7, 2) := by decide +kernel
theorem dX3_speak_291 : decode cX3_speak 291 = .ok (.iconst 1, 1) := by decide +kernel
theorem dX3_speak_292 : decode cX3_speak 292 = .ok (.iload_n 3, 1) := by decide +kernel
theorem dX3_speak_293 : decode cX3_speak 293 = .ok (.iload 8, 2) := by decide +kernel
theorem dX3_speak_295 : decode cX3_speak 295 = .ok (.invokevirtual 38, 3) := by decide +kernel
theorem dX3_speak_298 : decode cX3_speak 298 = .ok (.isub, 1) := by decide +kernel
theorem dX3_speak_299 : decode cX3_speak 299 = .ok (.ireturn, 1) := by decide +kernel
theorem dX3_speak_300 : decode cX3_speak 300 = .ok (.aload_n 0, 1) := by decide +kernel
theorem dX3_speak_301 : decode cX3_speak 301 = .ok (.iload 7, 2) := by decide +kernel
theorem dX3_speak_303 : decode cX3_speak 303 = .ok (.iconst 2, 1) := by decide +kernel
theorem dX3_speak_304 : decode cX3_speak 304 = .ok (.iload_n 3, 1) := by decide +kernel
theorem dX3_speak_305 : decode cX3_speak 305 = .ok (.iconst 2, 1) := by decide +kernel
theorem dX3_speak_306 : decode cX3_speak 306 = .ok (.idiv, 1) := by decide +kernel
theorem dX3_speak_307 : decode cX3_speak 307 = .ok (.iload 8, 2) := by decide +kernel
theorem dX3_speak_309 : decode cX3_speak 309 = .ok (.invokevirtual 38, 3) := by decide +kernel
theorem dX3_speak_312 : decode cX3_speak 312 = .ok (.ireturn, 1) := by decide +kernel
theorem dX3_speak_313 : decode cX3_speak 313 = .ok (.aload_n 0, 1) := by decide +kernel
theorem dX3_speak_314 : decode cX3_speak 314 = .ok (.iload 7, 2) := by decide +kernel
theorem dX3_speak_316 : decode cX3_speak 316 = .ok (.iconst 0, 1) := by decide +kernel
theorem dX3_speak_317 : decode cX3_speak 317 = .ok (.iload_n 3, 1) := by decide +kernel
theorem dX3_speak_318 : decode cX3_speak 318 = .ok (.iload 8, 2) := by decide +kernel
theorem dX3_speak_320 : decode cX3_speak 320 = .ok (.invokevirtual 38, 3) := by decide +kernel
theorem dX3_speak_323 : decode cX3_speak 323 = .ok (.iconst 3, 1) := by decide +kernel
theorem dX3_speak_324 : decode cX3_speak 324 = .ok (.imul, 1) := by decide +kernel
theorem dX3_speak_325 : decode cX3_speak 325 = .ok (.ireturn, 1) := by decide +kernel
theorem dX3_speak_326 : decode cX3_speak 326 = .ok (.aload_n 0, 1) := by decide +kernel
theorem dX3_speak_327 : decode cX3_speak 327 = .ok (.iload 7, 2) := by decide +kernel
theorem dX3_speak_329 : decode cX3_speak 329 = .ok (.iconst 2, 1) := by decide +kernel
theorem dX3_speak_330 : decode cX3_speak 330 = .ok (.iload_n 3, 1) := by decide +kernel
theorem dX3_speak_331 : decode cX3_speak 331 = .ok (.iload 8, 2) := by decide +kernel
theorem dX3_speak_333 : decode cX3_speak 333 = .ok (.invokevirtual 38, 3) := by decide +kernel
theorem dX3_speak_336 : decode cX3_speak 336 = .ok (.aload_n 0, 1) := by decide +kernel
theorem dX3_speak_337 : decode cX3_speak 337 = .ok (.getfield 23, 3) := by decide +kernel
theorem dX3_speak_340 : decode cX3_speak 340 = .ok (.ixor, 1) := by decide +kernel
theorem dX3_speak_341 : decode cX3_speak 341 = .ok (.ireturn, 1) := by decide +kernel
theorem dX3_speak_342 : decode cX3_speak 342 = .ok (.aload_n 0, 1) := by decide +kernel
theorem dX3_speak_343 : decode cX3_speak 343 = .ok (.iload 7, 2) := by decide +kernel
theorem dX3_speak_345 : decode cX3_speak 345 = .ok (.iconst 1, 1) := by decide +kernel
theorem dX3_speak_346 : decode cX3_speak 346 = .ok (.iload_n 3, 1) := by decide +kernel
theorem dX3_speak_347 : decode cX3_speak 347 = .ok (.iconst 1, 1) := by decide +kernel
theorem dX3_speak_348 : decode cX3_speak 348 = .ok (.iadd, 1) := by decide +kernel
theorem dX3_speak_349 : decode cX3_speak 349 = .ok (.iload 8, 2) := by decide +kernel
theorem dX3_speak_351 : decode cX3_speak 351 = .ok (.invokevirtual 38, 3) := by decide +kernel
theorem dX3_speak_354 : decode cX3_speak 354 = .ok (.ireturn, 1) := by decide +kernel
theorem dX3_speak_355 : decode cX3_speak 355 = .ok (.bipush 9, 2) := by decide +kernel
theorem dX3_speak_357 : decode cX3_speak 357 = .ok (.ireturn, 1) := by decide +kernel
theorem dX3_speak_358 : decode cX3_speak 358 = .ok (.aload_n 0, 1) := by decide +kernel
theorem dX3_speak_359 : decode cX3_speak 359 = .ok (.iload 7, 2) := by decide +kernel
theorem dX3_speak_361 : decode cX3_speak 361 = .ok (.iconst 1, 1) := by decide +kernel
theorem dX3_speak_362 : decode cX3_speak 362 = .ok (.iload_n 3, 1) := by decide +kernel
theorem dX3_speak_363 : decode cX3_speak 363 = .ok (.iload 8, 2) := by decide +kernel
theorem dX3_speak_365 : decode cX3_speak 365 = .ok (.invokevirtual 38, 3) := by decide +kernel
theorem dX3_speak_368 : decode cX3_speak 368 = .ok (.aload_n 0, 1) := by decide +kernel
theorem dX3_speak_369 : decode cX3_speak 369 = .ok (.getfield 29, 3) := by decide +kernel
theorem dX3_speak_372 : decode cX3_speak 372 = .ok (.iadd, 1) := by decide +kernel
theorem dX3_speak_373 : decode cX3_speak 373 = .ok (.ireturn, 1) := by decide +kernel
theorem dX3_speak_374 : decode cX3_speak 374 = .ok (.iconst 0, 1) := by decide +kernel
theorem dX3_speak_375 : decode cX3_speak 375 = .ok (.ireturn, 1) := by decide +kernel
theorem dX3_part_0 : decode cX3_part 0 = .ok (.aload_n 0, 1) := by decide +kernel
theorem dX3_part_1 : decode cX3_part 1 = .ok (.getfield 29, 3) := by decide +kernel
theorem dX3_part_4 : decode cX3_part 4 = .ok (.aload_n 0, 1) := by decide +kernel
theorem dX3_part_5 : decode cX3_part 5 = .ok (.getfield 23, 3) := by decide +kernel
theorem dX3_part_8 : decode cX3_part 8 = .ok (.isub, 1) := by decide +kernel
theorem dX3_part_9 : decode cX3_part 9 = .ok (.istore_n 2, 1) := by decide +kernel
theorem dX3_part_10 : decode cX3_part 10 = .ok (.iload_n 2, 1) := by decide +kernel
theorem dX3_part_11 : decode cX3_part 11 = .ok (.ifCond .ne 10, 3) := by decide +kernel
theorem dX3_part_14 : decode cX3_part 14 = .ok (.aload_n 0, 1) := by decide +kernel
theorem dX3_part_15 : decode cX3_part 15 = .ok (.iconst 1, 1) := by decide +kernel
theorem dX3_part_16 : decode cX3_part 16 = .ok (.putfield 31, 3) := by decide +kernel
theorem dX3_part_19 : decode cX3_part 19 = .ok (.iconst 0, 1) := by decide +kernel
theorem dX3_part_20 : decode cX3_part 20 = .ok (.ireturn, 1) := by decide +kernel
theorem dX3_part_21 : decode cX3_part 21 = .ok (.iload_n 1, 1) := by decide +kernel
theorem dX3_part_22 : decode cX3_part 22 = .ok (.iload_n 2, 1) := by decide +kernel
theorem dX3_part_23 : decode cX3_part 23 = .ok (.idiv, 1) := by decide +kernel
theorem dX3_part_24 : decode cX3_part 24 = .ok (.ireturn, 1) := by decide +kernel
theorem dX3_begin_0 : decode cX3_begin 0 = .ok (.aload_n 0, 1) := by decide +kernel
theorem dX3_begin_1 : decode cX3_begin 1 = .ok (.getfield 35, 3) := by decide +kernel
theorem dX3_begin_4 : decode cX3_begin 4 = .ok (.bipush 30, 2) := by decide +kernel
theorem dX3_begin_6 : decode cX3_begin 6 = .ok (.if_icmp .lt 4, 3) := by decide +kernel
theorem dX3_begin_9 : decode cX3_begin 9 = .ok (.return_, 1) := by decide +kernel
theorem dX3_begin_10 : decode cX3_begin 10 = .ok (.aload_n 0, 1) := by decide +kernel
theorem dX3_begin_11 : decode cX3_begin 11 = .ok (.getfield 9, 3) := by decide +kernel
theorem dX3_begin_14 : decode cX3_begin 14 = .ok (.aload_n 0, 1) := by decide +kernel
theorem dX3_begin_15 : decode cX3_begin 15 = .ok (.getfield 35, 3) := by decide +kernel
theorem dX3_begin_18 : decode cX3_begin 18 = .ok (.iload_n 1, 1) := by decide +kernel
theorem dX3_begin_19 : decode cX3_begin 19 = .ok (.iastore, 1) := by decide +kernel
theorem dX3_begin_20 : decode cX3_begin 20 = .ok (.aload_n 0, 1) := by decide +kernel
theorem dX3_begin_21 : decode cX3_begin 21 = .ok (.dup, 1) := by decide +kernel
theorem dX3_begin_22 : decode cX3_begin 22 = .ok (.getfield 35, 3) := by decide +kernel
theorem dX3_begin_25 : decode cX3_begin 25 = .ok (.iconst 1, 1) := by decide +kernel
theorem dX3_begin_26 : decode cX3_begin 26 = .ok (.iadd, 1) := by decide +kernel
theorem dX3_begin_27 : decode cX3_begin 27 = .ok (.putfield 35, 3) := by decide +kernel
theorem dX3_begin_30 : decode cX3_begin 30 = .ok (.return_, 1) := by decide +kernel
theorem dX4_copyFrom_0 : decode cX4_copyFrom 0 = .ok (.aload_n 0, 1) := by decide +kernel
theorem dX4_copyFrom_1 : decode cX4_copyFrom 1 = .ok (.aload_n 1, 1) := by decide +kernel
theorem dX4_copyFrom_2 : decode cX4_copyFrom 2 = .ok (.getfield 18, 3) := by decide +kernel
theorem dX4_copyFrom_5 : decode cX4_copyFrom 5 = .ok (.putfield 18, 3) := by decide +kernel
theorem dX4_copyFrom_8 : decode cX4_copyFrom 8 = .ok (.aload_n 0, 1) := by decide +kernel
theorem dX4_copyFrom_9 : decode cX4_copyFrom 9 = .ok (.aload_n 1, 1) := by decide +kernel
theorem dX4_copyFrom_10 : decode cX4_copyFrom 10 = .ok (.getfield 22, 3) := by decide +kernel
theorem dX4_copyFrom_13 : decode cX4_copyFrom 13 = .ok (.putfield 22, 3) := by decide +kernel
theorem dX4_copyFrom_16 : decode cX4_copyFrom 16 = .ok (.aload_n 1, 1) := by decide +kernel
theorem dX4_copyFrom_17 : decode cX4_copyFrom 17 = .ok (.getfield 9, 3) := by decide +kernel
theorem dX4_copyFrom_20 : decode cX4_copyFrom 20 = .ok (.iconst 0, 1) := by decide +kernel
theorem dX4_copyFrom_21 : decode cX4_copyFrom 21 = .ok (.aload_n 0, 1) := by decide +kernel
theorem dX4_copyFrom_22 : decode cX4_copyFrom 22 = .ok (.getfield 9, 3) := by decide +kernel
theorem dX4_copyFrom_25 : decode cX4_copyFrom 25 = .ok (.iconst 0, 1) := by decide +kernel
theorem dX4_copyFrom_26 : decode cX4_copyFrom 26 = .ok (.bipush 60, 2) := by decide +kernel
theorem dX4_copyFrom_28 : decode cX4_copyFrom 28 = .ok (.invokestatic 26, 3) := by decide +kernel
theorem dX4_copyFrom_31 : decode cX4_copyFrom 31 = .ok (.return_, 1) := by decide +kernel
theorem dX4_value_0 : decode cX4_value 0 = .ok (.iconst 0, 1) := by decide +kernel
theorem dX4_value_1 : decode cX4_value 1 = .ok (.istore 4, 2) := by decide +kernel
theorem dX4_value_3 : decode cX4_value 3 = .ok (.iconst 0, 1) := by decide +kernel
theorem dX4_value_4 : decode cX4_value 4 = .ok (.istore 5, 2) := by decide +kernel
theorem dX4_value_6 : decode cX4_value 6 = .ok (.iload 5, 2) := by decide +kernel
theorem dX4_value_8 : decode cX4_value 8 = .ok (.aload_n 0, 1) := by decide +kernel
theorem dX4_value_9 : decode cX4_value 9 = .ok (.getfield 22, 3) := by decide +kernel
theorem dX4_value_12 : decode cX4_value 12 = .ok (.if_icmp .ge 160, 3) := by decide +kernel
theorem dX4_value_15 : decode cX4_value 15 = .ok (.aload_n 0, 1) := by decide +kernel
theorem dX4_value_16 : decode cX4_value 16 = .ok (.getfield 9, 3) := by decide +kernel
theorem dX4_value_19 : decode cX4_value 19 = .ok (.iload 5, 2) := by decide +kernel
theorem dX4_value_21 : decode cX4_value 21 = .ok (.iaload, 1) := by decide +kernel
theorem dX4_value_22 : decode cX4_value 22 = .ok (.istore 6, 2) := by decide +kernel
theorem dX4_value_24 : decode cX4_value 24 = .ok (.iload 6, 2) := by decide +kernel
theorem dX4_value_26 : decode cX4_value 26 = .ok (.ldc 32, 2) := by decide +kernel
theorem dX4_value_28 : decode cX4_value 28 = .ok (.if_icmp .ne 37, 3) := by decide +kernel
theorem dX4_value_31 : decode cX4_value 31 = .ok (.iload 4, 2) := by decide +kernel
theorem dX4_value_33 : decode cX4_value 33 = .ok (.ifCond .le 133, 3) := by decide +kernel
theorem dX4_value_36 : decode cX4_value 36 = .ok (.aload_n 0, 1) := by decide +kernel
theorem dX4_value_37 : decode cX4_value 37 = .ok (.getfield 15, 3) := by decide +kernel
theorem dX4_value_40 : decode cX4_value 40 = .ok (.iload 4, 2) := by decide +kernel
theorem dX4_value_42 : decode cX4_value 42 = .ok (.iconst 1, 1) := by decide +kernel
theorem dX4_value_43 : decode cX4_value 43 = .ok (.isub, 1) := by decide +kernel
theorem dX4_value_44 : decode cX4_value 44 = .ok (.aload_n 0, 1) := by decide +kernel
theorem dX4_value_45 : decode cX4_value 45 = .ok (.getfield 15, 3) := by decide +kernel
theorem dX4_value_48 : decode cX4_value 48 = .ok (.iload 4, 2) := by decide +kernel
theorem dX4_value_50 : decode cX4_value 50 = .ok (.iconst 1, 1) := by decide +kernel
theorem dX4_value_51 : decode cX4_value 51 = .ok (.isub, 1) := by decide +kernel
theorem dX4_value_52 : decode cX4_value 52 = .ok (.iaload, 1) := by decide +kernel
theorem dX4_value_53 : decode cX4_value 53 = .ok (.ifCond .ne 7, 3) := by decide +kernel
theorem dX4_value_56 : decode cX4_value 56 = .ok (.iconst 1, 1) := by decide +kernel
theorem dX4_value_57 : decode cX4_value 57 = .ok (.goto 4, 3) := by decide +kernel
theorem dX4_value_60 : decode cX4_value 60 = .ok (.iconst 0, 1) := by decide +kernel
theorem dX4_value_61 : decode cX4_value 61 = .ok (.iastore, 1) := by decide +kernel
theorem dX4_value_62 : decode cX4_value 62 = .ok (.goto 104, 3) := by decide +kernel
theorem dX4_value_65 : decode cX4_value 65 = .ok (.iload 6, 2) := by decide +kernel
theorem dX4_value_67 : decode cX4_value 67 = .ok (.ldc 33, 2) := by decide +kernel
theorem dX4_value_69 : decode cX4_value 69 = .ok (.if_icmp .lt 48, 3) := by decide +kernel
theorem dX4_value_72 : decode cX4_value 72 = .ok (.iload 4, 2) := by decide +kernel
theorem dX4_value_74 : decode cX4_value 74 = .ok (.iconst 1, 1) := by decide +kernel
theorem dX4_value_75 : decode cX4_value 75 = .ok (.if_icmp .le 91, 3) := by decide +kernel
theorem dX4_value_78 : decode cX4_value 78 = .ok (.iinc 4 (-1), 3) := by decide +kernel
theorem dX4_value_81 : decode cX4_value 81 = .ok (.aload_n 0, 1) := by decide +kernel
theorem dX4_value_82 : decode cX4_value 82 = .ok (.getfield 15, 3) := by decide +kernel
theorem dX4_value_85 : decode cX4_value 85 = .ok (.iload 4, 2) := by decide +kernel
theorem dX4_value_87 : decode cX4_value 87 = .ok (.iconst 1, 1) := by decide +kernel
theorem dX4_value_88 : decode cX4_value 88 = .ok (.isub, 1) := by decide +kernel
theorem dX4_value_89 : decode cX4_value 89 = .ok (.iload 6, 2) := by decide +kernel
theorem dX4_value_91 : decode cX4_value 91 = .ok (.ldc 33, 2) := by decide +kernel
theorem dX4_value_93 : decode cX4_value 93 = .ok (.isub, 1) := by decide +kernel
theorem dX4_value_94 : decode cX4_value 94 = .ok (.aload_n 0, 1) := by decide +kernel
theorem dX4_value_95 : decode cX4_value 95 = .ok (.getfield 15, 3) := by decide +kernel
theorem dX4_value_98 : decode cX4_value 98 = .ok (.iload 4, 2) := by decide +kernel
theorem dX4_value_100 : decode cX4_value 100 = .ok (.iconst 1, 1) := by decide +kernel
theorem dX4_value_101 : decode cX4_value 101 = .ok (.isub, 1) := by decide +kernel
theorem dX4_value_102 : decode cX4_value 102 = .ok (.iaload, 1) := by decide +kernel
theorem dX4_value_103 : decode cX4_value 103 = .ok (.aload_n 0, 1) := by decide +kernel
theorem dX4_value_104 : decode cX4_value 104 = .ok (.getfield 15, 3) := by decide +kernel
theorem dX4_value_107 : decode cX4_value 107 = .ok (.iload 4, 2) := by decide +kernel
theorem dX4_value_109 : decode cX4_value 109 = .ok (.iaload, 1) := by decide +kernel
theorem dX4_value_110 : decode cX4_value 110 = .ok (.invokestatic 34, 3) := by decide +kernel
theorem dX4_value_113 : decode cX4_value 113 = .ok (.iastore, 1) := by decide +kernel
theorem dX4_value_114 : decode cX4_value 114 = .ok (.goto 52, 3) := by decide +kernel
theorem dX4_value_117 : decode cX4_value 117 = .ok (.iload 4, 2) := by decide +kernel
theorem dX4_value_119 : decode cX4_value 119 = .ok (.bipush 60, 2) := by decide +kernel
theorem dX4_value_121 : decode cX4_value 121 = .ok (.if_icmp .ge 45, 3) := by decide +kernel
theorem dX4_value_124 : decode cX4_value 124 = .ok (.aload_n 0, 1) := by decide +kernel
theorem dX4_value_125 : decode cX4_value 125 = .ok (.getfield 15, 3) := by decide +kernel
theorem dX4_value_128 : decode cX4_value 128 = .ok (.iload 4, 2) := by decide +kernel
theorem dX4_value_130 : decode cX4_value 130 = .ok (.iload 6, 2) := by decide +kernel
theorem dX4_value_132 : decode cX4_value 132 = .ok (.ifCond .lt 8, 3) := by decide +kernel
theorem dX4_value_135 : decode cX4_value 135 = .ok (.iload 6, 2) := by decide +kernel
theorem dX4_value_137 : decode cX4_value 137 = .ok (.goto 25, 3) := by decide +kernel
theorem dX4_value_140 : decode cX4_value 140 = .ok (.iload 6, 2) := by decide +kernel
theorem dX4_value_142 : decode cX4_value 142 = .ok (.iconst (-1), 1) := by decide +kernel
theorem dX4_value_143 : decode cX4_value 143 = .ok (.if_icmp .ne 7, 3) := by decide +kernel
theorem dX4_value_146 : decode cX4_value 146 = .ok (.iload_n 1, 1) := by decide +kernel
theorem dX4_value_147 : decode cX4_value 147 = .ok (.goto 15, 3) := by decide +kernel
theorem dX4_value_150 : decode cX4_value 150 = .ok (.iload 6, 2) := by decide +kernel
theorem dX4_value_152 : decode cX4_value 152 = .ok (.bipush (-2), 2) := by decide +kernel
theorem dX4_value_154 : decode cX4_value 154 = .ok (.if_icmp .ne 7, 3) := by decide +kernel
theorem dX4_value_157 : decode cX4_value 157 = .ok (.iload_n 2, 1) := by decide +kernel
theorem dX4_value_158 : decode cX4_value 158 = .ok (.goto 4, 3) := by decide +kernel
theorem dX4_value_161 : decode cX4_value 161 = .ok (.iload_n 3, 1) := by decide +kernel
theorem dX4_value_162 : decode cX4_value 162 = .ok (.iastore, 1) := by decide +kernel
theorem dX4_value_163 : decode cX4_value 163 = .ok (.iinc 4 1, 3) := by decide +kernel
theorem dX4_value_166 : decode cX4_value 166 = .ok (.iinc 5 1, 3) := by decide +kernel
theorem dX4_value_169 : decode cX4_value 169 = .ok (.goto (-163), 3) := by decide +kernel
theorem dX4_value_172 : decode cX4_value 172 = .ok (.iload 4, 2) := by decide +kernel
theorem dX4_value_174 : decode cX4_value 174 = .ok (.ifCond .le 12, 3) := by decide +kernel
theorem dX4_value_177 : decode cX4_value 177 = .ok (.aload_n 0, 1) := by decide +kernel
theorem dX4_value_178 : decode cX4_value 178 = .ok (.getfield 15, 3) := by decide +kernel
theorem dX4_value_181 : decode cX4_value 181 = .ok (.iconst 0, 1) := by decide +kernel
theorem dX4_value_182 : decode cX4_value 182 = .ok (.iaload, 1) := by decide +kernel
theorem dX4_value_183 : decode cX4_value 183 = .ok (.goto 4, 3) := by decide +kernel
theorem dX4_value_186 : decode cX4_value 186 = .ok (.iconst 0, 1) := by decide +kernel
theorem dX4_value_187 : decode cX4_value 187 = .ok (.ireturn, 1) := by decide +kernel
theorem dX4_joined_0 : decode cX4_joined 0 = .ok (.iload_n 0, 1) := by decide +kernel
theorem dX4_joined_1 : decode cX4_joined 1 = .ok (.tableswitch 202 37 62 #[143, 188, 202, 202, 202, 127, 119, 202, 123, 202, 131, 202, 202, 202, 202, 202, 202, 202, 202, 202, 202, 202, 202, 155, 166, 177], 119) := by decide +kernel
theorem dX4_joined_120 : decode cX4_joined 120 = .ok (.iload_n 1, 1) := by decide +kernel
theorem dX4_joined_121 : decode cX4_joined 121 = .ok (.iload_n 2, 1) := by decide +kernel
theorem dX4_joined_122 : decode cX4_joined 122 = .ok (.iadd, 1) := by decide +kernel
theorem dX4_joined_123 : decode cX4_joined 123 = .ok (.ireturn, 1) := by decide +kernel
theorem dX4_joined_124 : decode cX4_joined 124 = .ok (.iload_n 1, 1) := by decide +kernel
theorem dX4_joined_125 : decode cX4_joined 125 = .ok (.iload_n 2, 1) := by decide +kernel
theorem dX4_joined_126 : decode cX4_joined 126 = .ok (.isub, 1) := by decide +kernel
theorem dX4_joined_127 : decode cX4_joined 127 = .ok (.ireturn, 1) := by decide +kernel
theorem dX4_joined_128 : decode cX4_joined 128 = .ok (.iload_n 1, 1) := by decide +kernel
theorem dX4_joined_129 : decode cX4_joined 129 = .ok (.iload_n 2, 1) := by decide +kernel
theorem dX4_joined_130 : decode cX4_joined 130 = .ok (.imul, 1) := by decide +kernel
theorem dX4_joined_131 : decode cX4_joined 131 = .ok (.ireturn, 1) := by decide +kernel
theorem dX4_joined_132 : decode cX4_joined 132 = .ok (.iload_n 2, 1) := by decide +kernel
theorem dX4_joined_133 : decode cX4_joined 133 = .ok (.ifCond .ne 7, 3) := by decide +kernel
theorem dX4_joined_136 : decode cX4_joined 136 = .ok (.iconst 0, 1) := by decide +kernel
theorem dX4_joined_137 : decode cX4_joined 137 = .ok (.goto 6, 3) := by decide +kernel
theorem dX4_joined_140 : decode cX4_joined 140 = .ok (.iload_n 1, 1) := by decide +kernel
theorem dX4_joined_141 : decode cX4_joined 141 = .ok (.iload_n 2, 1) := by decide +kernel
theorem dX4_joined_142 : decode cX4_joined 142 = .ok (.idiv, 1) := by decide +kernel
theorem dX4_joined_143 : decode cX4_joined 143 = .ok (.ireturn, 1) := by decide +kernel
theorem dX4_joined_144 : decode cX4_joined 144 = .ok (.iload_n 2, 1) := by decide +kernel
theorem dX4_joined_145 : decode cX4_joined 145 = .ok (.ifCond .ne 7, 3) := by decide +kernel
theorem dX4_joined_148 : decode cX4_joined 148 = .ok (.iconst 0, 1) := by decide +kernel
theorem dX4_joined_149 : decode cX4_joined 149 = .ok (.goto 6, 3) := by decide +kernel
theorem dX4_joined_152 : decode cX4_joined 152 = .ok (.iload_n 1, 1) := by decide +kernel
theorem dX4_joined_153 : decode cX4_joined 153 = .ok (.iload_n 2, 1) := by decide +kernel
theorem dX4_joined_154 : decode cX4_joined 154 = .ok (.irem, 1) := by decide +kernel
theorem dX4_joined_155 : decode cX4_joined 155 = .ok (.ireturn, 1) := by decide +kernel
theorem dX4_joined_156 : decode cX4_joined 156 = .ok (.iload_n 1, 1) := by decide +kernel
theorem dX4_joined_157 : decode cX4_joined 157 = .ok (.iload_n 2, 1) := by decide +kernel
theorem dX4_joined_158 : decode cX4_joined 158 = .ok (.if_icmp .ge 7, 3) := by decide +kernel
theorem dX4_joined_161 : decode cX4_joined 161 = .ok (.iconst 1, 1) := by decide +kernel
theorem dX4_joined_162 : decode cX4_joined 162 = .ok (.goto 4, 3) := by decide +kernel
theorem dX4_joined_165 : decode cX4_joined 165 = .ok (.iconst 0, 1) := by decide +kernel
theorem dX4_joined_166 : decode cX4_joined 166 = .ok (.ireturn, 1) := by decide +kernel
theorem dX4_joined_167 : decode cX4_joined 167 = .ok (.iload_n 1, 1) := by decide +kernel
theorem dX4_joined_168 : decode cX4_joined 168 = .ok (.iload_n 2, 1) := by decide +kernel
theorem dX4_joined_169 : decode cX4_joined 169 = .ok (.if_icmp .ne 7, 3) := by decide +kernel
theorem dX4_joined_172 : decode cX4_joined 172 = .ok (.iconst 1, 1) := by decide +kernel
theorem dX4_joined_173 : decode cX4_joined 173 = .ok (.goto 4, 3) := by decide +kernel
theorem dX4_joined_176 : decode cX4_joined 176 = .ok (.iconst 0, 1) := by decide +kernel
theorem dX4_joined_177 : decode cX4_joined 177 = .ok (.ireturn, 1) := by decide +kernel
theorem dX4_joined_178 : decode cX4_joined 178 = .ok (.iload_n 1, 1) := by decide +kernel
theorem dX4_joined_179 : decode cX4_joined 179 = .ok (.iload_n 2, 1) := by decide +kernel
theorem dX4_joined_180 : decode cX4_joined 180 = .ok (.if_icmp .le 7, 3) := by decide +kernel
theorem dX4_joined_183 : decode cX4_joined 183 = .ok (.iconst 1, 1) := by decide +kernel
theorem dX4_joined_184 : decode cX4_joined 184 = .ok (.goto 4, 3) := by decide +kernel
theorem dX4_joined_187 : decode cX4_joined 187 = .ok (.iconst 0, 1) := by decide +kernel
theorem dX4_joined_188 : decode cX4_joined 188 = .ok (.ireturn, 1) := by decide +kernel
theorem dX4_joined_189 : decode cX4_joined 189 = .ok (.iload_n 1, 1) := by decide +kernel
theorem dX4_joined_190 : decode cX4_joined 190 = .ok (.ifCond .eq 11, 3) := by decide +kernel
theorem dX4_joined_193 : decode cX4_joined 193 = .ok (.iload_n 2, 1) := by decide +kernel
theorem dX4_joined_194 : decode cX4_joined 194 = .ok (.ifCond .eq 7, 3) := by decide +kernel
theorem dX4_joined_197 : decode cX4_joined 197 = .ok (.iconst 1, 1) := by decide +kernel
theorem dX4_joined_198 : decode cX4_joined 198 = .ok (.goto 4, 3) := by decide +kernel
theorem dX4_joined_201 : decode cX4_joined 201 = .ok (.iconst 0, 1) := by decide +kernel
theorem dX4_joined_202 : decode cX4_joined 202 = .ok (.ireturn, 1) := by decide +kernel
theorem dX4_joined_203 : decode cX4_joined 203 = .ok (.iload_n 1, 1) := by decide +kernel
theorem dX4_joined_204 : decode cX4_joined 204 = .ok (.ifCond .ne 7, 3) := by decide +kernel
theorem dX4_joined_207 : decode cX4_joined 207 = .ok (.iload_n 2, 1) := by decide +kernel
theorem dX4_joined_208 : decode cX4_joined 208 = .ok (.ifCond .eq 7, 3) := by decide +kernel
theorem dX4_joined_211 : decode cX4_joined 211 = .ok (.iconst 1, 1) := by decide +kernel
theorem dX4_joined_212 : decode cX4_joined 212 = .ok (.goto 4, 3) := by decide +kernel
theorem dX4_joined_215 : decode cX4_joined 215 = .ok (.iconst 0, 1) := by decide +kernel
theorem dX4_joined_216 : decode cX4_joined 216 = .ok (.ireturn, 1) := by decide +kernel
theorem dX4_read_0 : decode cX4_read 0 = .ok (.aload_n 0, 1) := by decide +kernel
theorem dX4_read_1 : decode cX4_read 1 = .ok (.aload_n 1, 1) := by decide +kernel
theorem dX4_read_2 : decode cX4_read 2 = .ok (.putfield 38, 3) := by decide +kernel
theorem dX4_read_5 : decode cX4_read 5 = .ok (.aload_n 0, 1) := by decide +kernel
theorem dX4_read_6 : decode cX4_read 6 = .ok (.iload_n 2, 1) := by decide +kernel
theorem dX4_read_7 : decode cX4_read 7 = .ok (.putfield 41, 3) := by decide +kernel
theorem dX4_read_10 : decode cX4_read 10 = .ok (.aload_n 0, 1) := by decide +kernel
theorem dX4_read_11 : decode cX4_read 11 = .ok (.aload_n 3, 1) := by decide +kernel
theorem dX4_read_12 : decode cX4_read 12 = .ok (.putfield 44, 3) := by decide +kernel
theorem dX4_read_15 : decode cX4_read 15 = .ok (.aload_n 0, 1) := by decide +kernel
theorem dX4_read_16 : decode cX4_read 16 = .ok (.iconst 0, 1) := by decide +kernel
theorem dX4_read_17 : decode cX4_read 17 = .ok (.putfield 48, 3) := by decide +kernel
theorem dX4_read_20 : decode cX4_read 20 = .ok (.aload_n 0, 1) := by decide +kernel
theorem dX4_read_21 : decode cX4_read 21 = .ok (.iconst 0, 1) := by decide +kernel
theorem dX4_read_22 : decode cX4_read 22 = .ok (.putfield 22, 3) := by decide +kernel
theorem dX4_read_25 : decode cX4_read 25 = .ok (.aload_n 0, 1) := by decide +kernel
theorem dX4_read_26 : decode cX4_read 26 = .ok (.iconst 0, 1) := by decide +kernel
theorem dX4_read_27 : decode cX4_read 27 = .ok (.putfield 51, 3) := by decide +kernel
theorem dX4_read_30 : decode cX4_read 30 = .ok (.aload_n 0, 1) := by decide +kernel
theorem dX4_read_31 : decode cX4_read 31 = .ok (.iconst 0, 1) := by decide +kernel
theorem dX4_read_32 : decode cX4_read 32 = .ok (.iconst 0, 1) := by decide +kernel
theorem dX4_read_33 : decode cX4_read 33 = .ok (.invokevirtual 54, 3) := by decide +kernel
theorem dX4_read_36 : decode cX4_read 36 = .ok (.aload_n 0, 1) := by decide +kernel
theorem dX4_read_37 : decode cX4_read 37 = .ok (.getfield 48, 3) := by decide +kernel
theorem dX4_read_40 : decode cX4_read 40 = .ok (.aload_n 0, 1) := by decide +kernel
theorem dX4_read_41 : decode cX4_read 41 = .ok (.getfield 41, 3) := by decide +kernel
theorem dX4_read_44 : decode cX4_read 44 = .ok (.if_icmp .ge 8, 3) := by decide +kernel
theorem dX4_read_47 : decode cX4_read 47 = .ok (.aload_n 0, 1) := by decide +kernel
theorem dX4_read_48 : decode cX4_read 48 = .ok (.iconst 1, 1) := by decide +kernel
theorem dX4_read_49 : decode cX4_read 49 = .ok (.putfield 51, 3) := by decide +kernel
theorem dX4_read_52 : decode cX4_read 52 = .ok (.aload_n 0, 1) := by decide +kernel
theorem dX4_read_53 : decode cX4_read 53 = .ok (.aload_n 0, 1) := by decide +kernel
theorem dX4_read_54 : decode cX4_read 54 = .ok (.getfield 51, 3) := by decide +kernel
theorem dX4_read_57 : decode cX4_read 57 = .ok (.ifCond .ne 7, 3) := by decide +kernel
theorem dX4_read_60 : decode cX4_read 60 = .ok (.iconst 1, 1) := by decide +kernel
theorem dX4_read_61 : decode cX4_read 61 = .ok (.goto 4, 3) := by decide +kernel
theorem dX4_read_64 : decode cX4_read 64 = .ok (.iconst 0, 1) := by decide +kernel
theorem dX4_read_65 : decode cX4_read 65 = .ok (.putfield 18, 3) := by decide +kernel
theorem dX4_read_68 : decode cX4_read 68 = .ok (.aload_n 0, 1) := by decide +kernel
theorem dX4_read_69 : decode cX4_read 69 = .ok (.getfield 51, 3) := by decide +kernel
theorem dX4_read_72 : decode cX4_read 72 = .ok (.ifCond .eq 10, 3) := by decide +kernel
theorem dX4_read_75 : decode cX4_read 75 = .ok (.aload_n 0, 1) := by decide +kernel
theorem dX4_read_76 : decode cX4_read 76 = .ok (.getfield 48, 3) := by decide +kernel
theorem dX4_read_79 : decode cX4_read 79 = .ok (.goto 4, 3) := by decide +kernel
theorem dX4_read_82 : decode cX4_read 82 = .ok (.iconst (-1), 1) := by decide +kernel
theorem dX4_read_83 : decode cX4_read 83 = .ok (.ireturn, 1) := by decide +kernel
theorem dX4_readLevel_0 : decode cX4_readLevel 0 = .ok (.iload_n 1, 1) := by decide +kernel
theorem dX4_readLevel_1 : decode cX4_readLevel 1 = .ok (.iconst 5, 1) := by decide +kernel
theorem dX4_readLevel_2 : decode cX4_readLevel 2 = .ok (.if_icmp .ne 9, 3) := by decide +kernel
theorem dX4_readLevel_5 : decode cX4_readLevel 5 = .ok (.aload_n 0, 1) := by decide +kernel
theorem dX4_readLevel_6 : decode cX4_readLevel 6 = .ok (.iload_n 2, 1) := by decide +kernel
theorem dX4_readLevel_7 : decode cX4_readLevel 7 = .ok (.invokevirtual 58, 3) := by decide +kernel
theorem dX4_readLevel_10 : decode cX4_readLevel 10 = .ok (.return_, 1) := by decide +kernel
theorem dX4_readLevel_11 : decode cX4_readLevel 11 = .ok (.aload_n 0, 1) := by decide +kernel
theorem dX4_readLevel_12 : decode cX4_readLevel 12 = .ok (.iload_n 1, 1) := by decide +kernel
theorem dX4_readLevel_13 : decode cX4_readLevel 13 = .ok (.iconst 1, 1) := by decide +kernel
theorem dX4_readLevel_14 : decode cX4_readLevel 14 = .ok (.iadd, 1) := by decide +kernel
theorem dX4_readLevel_15 : decode cX4_readLevel 15 = .ok (.iload_n 2, 1) := by decide +kernel
theorem dX4_readLevel_16 : decode cX4_readLevel 16 = .ok (.invokevirtual 54, 3) := by decide +kernel
theorem dX4_readLevel_19 : decode cX4_readLevel 19 = .ok (.aload_n 0, 1) := by decide +kernel
theorem dX4_readLevel_20 : decode cX4_readLevel 20 = .ok (.iload_n 1, 1) := by decide +kernel
theorem dX4_readLevel_21 : decode cX4_readLevel 21 = .ok (.invokevirtual 62, 3) := by decide +kernel
theorem dX4_readLevel_24 : decode cX4_readLevel 24 = .ok (.istore_n 3, 1) := by decide +kernel
theorem dX4_readLevel_25 : decode cX4_readLevel 25 = .ok (.iconst 0, 1) := by decide +kernel
theorem dX4_readLevel_26 : decode cX4_readLevel 26 = .ok (.istore 4, 2) := by decide +kernel
theorem dX4_readLevel_28 : decode cX4_readLevel 28 = .ok (.iload 4, 2) := by decide +kernel
theorem dX4_readLevel_30 : decode cX4_readLevel 30 = .ok (.bipush 60, 2) := by decide +kernel
theorem dX4_readLevel_32 : decode cX4_readLevel 32 = .ok (.if_icmp .ge 44, 3) := by decide +kernel
theorem dX4_readLevel_35 : decode cX4_readLevel 35 = .ok (.iload_n 3, 1) := by decide +kernel
theorem dX4_readLevel_36 : decode cX4_readLevel 36 = .ok (.ifCond .eq 40, 3) := by decide +kernel
theorem dX4_readLevel_39 : decode cX4_readLevel 39 = .ok (.aload_n 0, 1) := by decide +kernel
theorem dX4_readLevel_40 : decode cX4_readLevel 40 = .ok (.iload_n 1, 1) := by decide +kernel
theorem dX4_readLevel_41 : decode cX4_readLevel 41 = .ok (.iconst 1, 1) := by decide +kernel
theorem dX4_readLevel_42 : decode cX4_readLevel 42 = .ok (.iadd, 1) := by decide +kernel
theorem dX4_readLevel_43 : decode cX4_readLevel 43 = .ok (.iload_n 2, 1) := by decide +kernel
theorem dX4_readLevel_44 : decode cX4_readLevel 44 = .ok (.invokevirtual 54, 3) := by decide +kernel
theorem dX4_readLevel_47 : decode cX4_readLevel 47 = .ok (.aload_n 0, 1) := by decide +kernel
theorem dX4_readLevel_48 : decode cX4_readLevel 48 = .ok (.ldc 33, 2) := by decide +kernel
theorem dX4_readLevel_50 : decode cX4_readLevel 50 = .ok (.iload_n 3, 1) := by decide +kernel
theorem dX4_readLevel_51 : decode cX4_readLevel 51 = .ok (.iadd, 1) := by decide +kernel
theorem dX4_readLevel_52 : decode cX4_readLevel 52 = .ok (.invokevirtual 66, 3) := by decide +kernel
theorem dX4_readLevel_55 : decode cX4_readLevel 55 = .ok (.iload_n 1, 1) := by decide +kernel
theorem dX4_readLevel_56 : decode cX4_readLevel 56 = .ok (.iconst 2, 1) := by decide +kernel
theorem dX4_readLevel_57 : decode cX4_readLevel 57 = .ok (.if_icmp .ne 7, 3) := by decide +kernel
theorem dX4_readLevel_60 : decode cX4_readLevel 60 = .ok (.iconst 0, 1) := by decide +kernel
theorem dX4_readLevel_61 : decode cX4_readLevel 61 = .ok (.goto 8, 3) := by decide +kernel
theorem dX4_readLevel_64 : decode cX4_readLevel 64 = .ok (.aload_n 0, 1) := by decide +kernel
theorem dX4_readLevel_65 : decode cX4_readLevel 65 = .ok (.iload_n 1, 1) := by decide +kernel
theorem dX4_readLevel_66 : decode cX4_readLevel 66 = .ok (.invokevirtual 62, 3) := by decide +kernel
theorem dX4_readLevel_69 : decode cX4_readLevel 69 = .ok (.istore_n 3, 1) := by decide +kernel
theorem dX4_readLevel_70 : decode cX4_readLevel 70 = .ok (.iinc 4 1, 3) := by decide +kernel
theorem dX4_readLevel_73 : decode cX4_readLevel 73 = .ok (.goto (-45), 3) := by decide +kernel
theorem dX4_readLevel_76 : decode cX4_readLevel 76 = .ok (.return_, 1) := by decide +kernel
theorem dX4_readPart_0 : decode cX4_readPart 0 = .ok (.aload_n 0, 1) := by decide +kernel
theorem dX4_readPart_1 : decode cX4_readPart 1 = .ok (.getfield 51, 3) := by decide +kernel
theorem dX4_readPart_4 : decode cX4_readPart 4 = .ok (.ifCond .eq 4, 3) := by decide +kernel
theorem dX4_readPart_7 : decode cX4_readPart 7 = .ok (.return_, 1) := by decide +kernel
theorem dX4_readPart_8 : decode cX4_readPart 8 = .ok (.aload_n 0, 1) := by decide +kernel
theorem dX4_readPart_9 : decode cX4_readPart 9 = .ok (.invokevirtual 69, 3) := by decide +kernel
theorem dX4_readPart_12 : decode cX4_readPart 12 = .ok (.istore_n 2, 1) := by decide +kernel
theorem dX4_readPart_13 : decode cX4_readPart 13 = .ok (.iload_n 2, 1) := by decide +kernel
theorem dX4_readPart_14 : decode cX4_readPart 14 = .ok (.bipush 48, 2) := by decide +kernel
theorem dX4_readPart_16 : decode cX4_readPart 16 = .ok (.if_icmp .lt 16, 3) := by decide +kernel
theorem dX4_readPart_19 : decode cX4_readPart 19 = .ok (.iload_n 2, 1) := by decide +kernel
theorem dX4_readPart_20 : decode cX4_readPart 20 = .ok (.bipush 57, 2) := by decide +kernel
theorem dX4_readPart_22 : decode cX4_readPart 22 = .ok (.if_icmp .gt 10, 3) := by decide +kernel
theorem dX4_readPart_25 : decode cX4_readPart 25 = .ok (.aload_n 0, 1) := by decide +kernel
theorem dX4_readPart_26 : decode cX4_readPart 26 = .ok (.invokevirtual 73, 3) := by decide +kernel
theorem dX4_readPart_29 : decode cX4_readPart 29 = .ok (.goto 29, 3) := by decide +kernel
theorem dX4_readPart_32 : decode cX4_readPart 32 = .ok (.iload_n 2, 1) := by decide +kernel
theorem dX4_readPart_33 : decode cX4_readPart 33 = .ok (.bipush 33, 2) := by decide +kernel
theorem dX4_readPart_35 : decode cX4_readPart 35 = .ok (.if_icmp .eq 9, 3) := by decide +kernel
theorem dX4_readPart_38 : decode cX4_readPart 38 = .ok (.iload_n 2, 1) := by decide +kernel
theorem dX4_readPart_39 : decode cX4_readPart 39 = .ok (.bipush 40, 2) := by decide +kernel
theorem dX4_readPart_41 : decode cX4_readPart 41 = .ok (.if_icmp .ne 12, 3) := by decide +kernel
theorem dX4_readPart_44 : decode cX4_readPart 44 = .ok (.aload_n 0, 1) := by decide +kernel
theorem dX4_readPart_45 : decode cX4_readPart 45 = .ok (.iload_n 2, 1) := by decide +kernel
theorem dX4_readPart_46 : decode cX4_readPart 46 = .ok (.iload_n 1, 1) := by decide +kernel
theorem dX4_readPart_47 : decode cX4_readPart 47 = .ok (.invokevirtual 76, 3) := by decide +kernel
theorem dX4_readPart_50 : decode cX4_readPart 50 = .ok (.goto 8, 3) := by decide +kernel
theorem dX4_readPart_53 : decode cX4_readPart 53 = .ok (.aload_n 0, 1) := by decide +kernel
theorem dX4_readPart_54 : decode cX4_readPart 54 = .ok (.iload_n 2, 1) := by decide +kernel
theorem dX4_readPart_55 : decode cX4_readPart 55 = .ok (.invokevirtual 79, 3) := by decide +kernel
theorem dX4_readPart_58 : decode cX4_readPart 58 = .ok (.return_, 1) := by decide +kernel
theorem dX4_readNumber_0 : decode cX4_readNumber 0 = .ok (.iconst 0, 1) := by decide +kernel
theorem dX4_readNumber_1 : decode cX4_readNumber 1 = .ok (.istore_n 1, 1) := by decide +kernel
theorem dX4_readNumber_2 : decode cX4_readNumber 2 = .ok (.iconst 0, 1) := by decide +kernel
theorem dX4_readNumber_3 : decode cX4_readNumber 3 = .ok (.istore_n 2, 1) := by decide +kernel
theorem dX4_readNumber_4 : decode cX4_readNumber 4 = .ok (.iload_n 2, 1) := by decide +kernel
theorem dX4_readNumber_5 : decode cX4_readNumber 5 = .ok (.iconst 4, 1) := by decide +kernel
theorem dX4_readNumber_6 : decode cX4_readNumber 6 = .ok (.if_icmp .ge 50, 3) := by decide +kernel
theorem dX4_readNumber_9 : decode cX4_readNumber 9 = .ok (.aload_n 0, 1) := by decide +kernel
theorem dX4_readNumber_10 : decode cX4_readNumber 10 = .ok (.invokevirtual 69, 3) := by decide +kernel
theorem dX4_readNumber_13 : decode cX4_readNumber 13 = .ok (.bipush 48, 2) := by decide +kernel
theorem dX4_readNumber_15 : decode cX4_readNumber 15 = .ok (.if_icmp .lt 41, 3) := by decide +kernel
theorem dX4_readNumber_18 : decode cX4_readNumber 18 = .ok (.aload_n 0, 1) := by decide +kernel
theorem dX4_readNumber_19 : decode cX4_readNumber 19 = .ok (.invokevirtual 69, 3) := by decide +kernel
theorem dX4_readNumber_22 : decode cX4_readNumber 22 = .ok (.bipush 57, 2) := by decide +kernel
theorem dX4_readNumber_24 : decode cX4_readNumber 24 = .ok (.if_icmp .gt 32, 3) := by decide +kernel
theorem dX4_readNumber_27 : decode cX4_readNumber 27 = .ok (.bipush 10, 2) := by decide +kernel
theorem dX4_readNumber_29 : decode cX4_readNumber 29 = .ok (.iload_n 1, 1) := by decide +kernel
theorem dX4_readNumber_30 : decode cX4_readNumber 30 = .ok (.imul, 1) := by decide +kernel
theorem dX4_readNumber_31 : decode cX4_readNumber 31 = .ok (.aload_n 0, 1) := by decide +kernel
theorem dX4_readNumber_32 : decode cX4_readNumber 32 = .ok (.invokevirtual 69, 3) := by decide +kernel
theorem dX4_readNumber_35 : decode cX4_readNumber 35 = .ok (.iadd, 1) := by decide +kernel
theorem dX4_readNumber_36 : decode cX4_readNumber 36 = .ok (.bipush 48, 2) := by decide +kernel
theorem dX4_readNumber_38 : decode cX4_readNumber 38 = .ok (.isub, 1) := by decide +kernel
theorem dX4_readNumber_39 : decode cX4_readNumber 39 = .ok (.istore_n 1, 1) := by decide +kernel
theorem dX4_readNumber_40 : decode cX4_readNumber 40 = .ok (.aload_n 0, 1) := by decide +kernel
theorem dX4_readNumber_41 : decode cX4_readNumber 41 = .ok (.dup, 1) := by decide +kernel
theorem dX4_readNumber_42 : decode cX4_readNumber 42 = .ok (.getfield 48, 3) := by decide +kernel
theorem dX4_readNumber_45 : decode cX4_readNumber 45 = .ok (.iconst 1, 1) := by decide +kernel
theorem dX4_readNumber_46 : decode cX4_readNumber 46 = .ok (.iadd, 1) := by decide +kernel
theorem dX4_readNumber_47 : decode cX4_readNumber 47 = .ok (.putfield 48, 3) := by decide +kernel
theorem dX4_readNumber_50 : decode cX4_readNumber 50 = .ok (.iinc 2 1, 3) := by decide +kernel
theorem dX4_readNumber_53 : decode cX4_readNumber 53 = .ok (.goto (-49), 3) := by decide +kernel
theorem dX4_readNumber_56 : decode cX4_readNumber 56 = .ok (.aload_n 0, 1) := by decide +kernel
theorem dX4_readNumber_57 : decode cX4_readNumber 57 = .ok (.iload_n 1, 1) := by decide +kernel
theorem dX4_readNumber_58 : decode cX4_readNumber 58 = .ok (.invokevirtual 66, 3) := by decide +kernel
theorem dX4_readNumber_61 : decode cX4_readNumber 61 = .ok (.return_, 1) := by decide +kernel
theorem dX4_readName_0 : decode cX4_readName 0 = .ok (.iload_n 1, 1) := by decide +kernel
theorem dX4_readName_1 : decode cX4_readName 1 = .ok (.ifCond .ge 7, 3) := by decide +kernel
theorem dX4_readName_4 : decode cX4_readName 4 = .ok (.iconst (-1), 1) := by decide +kernel
theorem dX4_readName_5 : decode cX4_readName 5 = .ok (.goto 12, 3) := by decide +kernel
theorem dX4_readName_8 : decode cX4_readName 8 = .ok (.aload_n 0, 1) := by decide +kernel
theorem dX4_readName_9 : decode cX4_readName 9 = .ok (.getfield 44, 3) := by decide +kernel
theorem dX4_readName_12 : decode cX4_readName 12 = .ok (.iload_n 1, 1) := by decide +kernel
theorem dX4_readName_13 : decode cX4_readName 13 = .ok (.i2c, 1) := by decide +kernel
theorem dX4_readName_14 : decode cX4_readName 14 = .ok (.invokevirtual 82, 3) := by decide +kernel
theorem dX4_readName_17 : decode cX4_readName 17 = .ok (.istore_n 2, 1) := by decide +kernel
theorem dX4_readName_18 : decode cX4_readName 18 = .ok (.iload_n 2, 1) := by decide +kernel
theorem dX4_readName_19 : decode cX4_readName 19 = .ok (.ifCond .ge 11, 3) := by decide +kernel
theorem dX4_readName_22 : decode cX4_readName 22 = .ok (.aload_n 0, 1) := by decide +kernel
theorem dX4_readName_23 : decode cX4_readName 23 = .ok (.iconst 1, 1) := by decide +kernel
theorem dX4_readName_24 : decode cX4_readName 24 = .ok (.putfield 51, 3) := by decide +kernel
theorem dX4_readName_27 : decode cX4_readName 27 = .ok (.goto 20, 3) := by decide +kernel
theorem dX4_readName_30 : decode cX4_readName 30 = .ok (.aload_n 0, 1) := by decide +kernel
theorem dX4_readName_31 : decode cX4_readName 31 = .ok (.dup, 1) := by decide +kernel
theorem dX4_readName_32 : decode cX4_readName 32 = .ok (.getfield 48, 3) := by decide +kernel
theorem dX4_readName_35 : decode cX4_readName 35 = .ok (.iconst 1, 1) := by decide +kernel
theorem dX4_readName_36 : decode cX4_readName 36 = .ok (.iadd, 1) := by decide +kernel
theorem dX4_readName_37 : decode cX4_readName 37 = .ok (.putfield 48, 3) := by decide +kernel
theorem dX4_readName_40 : decode cX4_readName 40 = .ok (.aload_n 0, 1) := by decide +kernel
theorem dX4_readName_41 : decode cX4_readName 41 = .ok (.iconst (-1), 1) := by decide +kernel
theorem dX4_readName_42 : decode cX4_readName 42 = .ok (.iload_n 2, 1) := by decide +kernel
theorem dX4_readName_43 : decode cX4_readName 43 = .ok (.isub, 1) := by decide +kernel
theorem dX4_readName_44 : decode cX4_readName 44 = .ok (.invokevirtual 66, 3) := by decide +kernel
theorem dX4_readName_47 : decode cX4_readName 47 = .ok (.return_, 1) := by decide +kernel
theorem dX4_readOpened_0 : decode cX4_readOpened 0 = .ok (.iload_n 2, 1) := by decide +kernel
theorem dX4_readOpened_1 : decode cX4_readOpened 1 = .ok (.iconst 5, 1) := by decide +kernel
theorem dX4_readOpened_2 : decode cX4_readOpened 2 = .ok (.if_icmp .lt 9, 3) := by decide +kernel
theorem dX4_readOpened_5 : decode cX4_readOpened 5 = .ok (.aload_n 0, 1) := by decide +kernel
theorem dX4_readOpened_6 : decode cX4_readOpened 6 = .ok (.iconst 1, 1) := by decide +kernel
theorem dX4_readOpened_7 : decode cX4_readOpened 7 = .ok (.putfield 51, 3) := by decide +kernel
theorem dX4_readOpened_10 : decode cX4_readOpened 10 = .ok (.return_, 1) := by decide +kernel
theorem dX4_readOpened_11 : decode cX4_readOpened 11 = .ok (.aload_n 0, 1) := by decide +kernel
theorem dX4_readOpened_12 : decode cX4_readOpened 12 = .ok (.dup, 1) := by decide +kernel
theorem dX4_readOpened_13 : decode cX4_readOpened 13 = .ok (.getfield 48, 3) := by decide +kernel
theorem dX4_readOpened_16 : decode cX4_readOpened 16 = .ok (.iconst 1, 1) := by decide +kernel
theorem dX4_readOpened_17 : decode cX4_readOpened 17 = .ok (.iadd, 1) := by decide +kernel
theorem dX4_readOpened_18 : decode cX4_readOpened 18 = .ok (.putfield 48, 3) := by decide +kernel
theorem dX4_readOpened_21 : decode cX4_readOpened 21 = .ok (.iload_n 1, 1) := by decide +kernel
theorem dX4_readOpened_22 : decode cX4_readOpened 22 = .ok (.bipush 33, 2) := by decide +kernel
theorem dX4_readOpened_24 : decode cX4_readOpened 24 = .ok (.if_icmp .ne 19, 3) := by decide +kernel
theorem dX4_readOpened_27 : decode cX4_readOpened 27 = .ok (.aload_n 0, 1) := by decide +kernel
theorem dX4_readOpened_28 : decode cX4_readOpened 28 = .ok (.iload_n 2, 1) := by decide +kernel
theorem dX4_readOpened_29 : decode cX4_readOpened 29 = .ok (.iconst 1, 1) := by decide +kernel
theorem dX4_readOpened_30 : decode cX4_readOpened 30 = .ok (.iadd, 1) := by decide +kernel
theorem dX4_readOpened_31 : decode cX4_readOpened 31 = .ok (.invokevirtual 58, 3) := by decide +kernel
theorem dX4_readOpened_34 : decode cX4_readOpened 34 = .ok (.aload_n 0, 1) := by decide +kernel
theorem dX4_readOpened_35 : decode cX4_readOpened 35 = .ok (.ldc 32, 2) := by decide +kernel
theorem dX4_readOpened_37 : decode cX4_readOpened 37 = .ok (.invokevirtual 66, 3) := by decide +kernel
theorem dX4_readOpened_40 : decode cX4_readOpened 40 = .ok (.goto 45, 3) := by decide +kernel
theorem dX4_readOpened_43 : decode cX4_readOpened 43 = .ok (.aload_n 0, 1) := by decide +kernel
theorem dX4_readOpened_44 : decode cX4_readOpened 44 = .ok (.iconst 0, 1) := by decide +kernel
theorem dX4_readOpened_45 : decode cX4_readOpened 45 = .ok (.iload_n 2, 1) := by decide +kernel
theorem dX4_readOpened_46 : decode cX4_readOpened 46 = .ok (.iconst 1, 1) := by decide +kernel
theorem dX4_readOpened_47 : decode cX4_readOpened 47 = .ok (.iadd, 1) := by decide +kernel
theorem dX4_readOpened_48 : decode cX4_readOpened 48 = .ok (.invokevirtual 54, 3) := by decide +kernel
theorem dX4_readOpened_51 : decode cX4_readOpened 51 = .ok (.aload_n 0, 1) := by decide +kernel
theorem dX4_readOpened_52 : decode cX4_readOpened 52 = .ok (.getfield 51, 3) := by decide +kernel
theorem dX4_readOpened_55 : decode cX4_readOpened 55 = .ok (.ifCond .ne 25, 3) := by decide +kernel
theorem dX4_readOpened_58 : decode cX4_readOpened 58 = .ok (.aload_n 0, 1) := by decide +kernel
theorem dX4_readOpened_59 : decode cX4_readOpened 59 = .ok (.invokevirtual 69, 3) := by decide +kernel
theorem dX4_readOpened_62 : decode cX4_readOpened 62 = .ok (.bipush 41, 2) := by decide +kernel
theorem dX4_readOpened_64 : decode cX4_readOpened 64 = .ok (.if_icmp .ne 16, 3) := by decide +kernel
theorem dX4_readOpened_67 : decode cX4_readOpened 67 = .ok (.aload_n 0, 1) := by decide +kernel
theorem dX4_readOpened_68 : decode cX4_readOpened 68 = .ok (.dup, 1) := by decide +kernel
theorem dX4_readOpened_69 : decode cX4_readOpened 69 = .ok (.getfield 48, 3) := by decide +kernel
theorem dX4_readOpened_72 : decode cX4_readOpened 72 = .ok (.iconst 1, 1) := by decide +kernel
theorem dX4_readOpened_73 : decode cX4_readOpened 73 = .ok (.iadd, 1) := by decide +kernel
theorem dX4_readOpened_74 : decode cX4_readOpened 74 = .ok (.putfield 48, 3) := by decide +kernel
theorem dX4_readOpened_77 : decode cX4_readOpened 77 = .ok (.goto 8, 3) := by decide +kernel
theorem dX4_readOpened_80 : decode cX4_readOpened 80 = .ok (.aload_n 0, 1) := by decide +kernel
theorem dX4_readOpened_81 : decode cX4_readOpened 81 = .ok (.iconst 1, 1) := by decide +kernel
theorem dX4_readOpened_82 : decode cX4_readOpened 82 = .ok (.putfield 51, 3) := by decide +kernel
theorem dX4_readOpened_85 : decode cX4_readOpened 85 = .ok (.return_, 1) := by decide +kernel
theorem dX4_peek_0 : decode cX4_peek 0 = .ok (.aload_n 0, 1) := by decide +kernel
theorem dX4_peek_1 : decode cX4_peek 1 = .ok (.getfield 48, 3) := by decide +kernel
theorem dX4_peek_4 : decode cX4_peek 4 = .ok (.aload_n 0, 1) := by decide +kernel
theorem dX4_peek_5 : decode cX4_peek 5 = .ok (.getfield 41, 3) := by decide +kernel
theorem dX4_peek_8 : decode cX4_peek 8 = .ok (.if_icmp .ge 15, 3) := by decide +kernel
theorem dX4_peek_11 : decode cX4_peek 11 = .ok (.aload_n 0, 1) := by decide +kernel
theorem dX4_peek_12 : decode cX4_peek 12 = .ok (.getfield 38, 3) := by decide +kernel
theorem dX4_peek_15 : decode cX4_peek 15 = .ok (.aload_n 0, 1) := by decide +kernel
theorem dX4_peek_16 : decode cX4_peek 16 = .ok (.getfield 48, 3) := by decide +kernel
theorem dX4_peek_19 : decode cX4_peek 19 = .ok (.iaload, 1) := by decide +kernel
theorem dX4_peek_20 : decode cX4_peek 20 = .ok (.goto 4, 3) := by decide +kernel
theorem dX4_peek_23 : decode cX4_peek 23 = .ok (.iconst (-1), 1) := by decide +kernel
theorem dX4_peek_24 : decode cX4_peek 24 = .ok (.ireturn, 1) := by decide +kernel
theorem dX4_takeSign_0 : decode cX4_takeSign 0 = .ok (.aload_n 0, 1) := by decide +kernel
theorem dX4_takeSign_1 : decode cX4_takeSign 1 = .ok (.invokevirtual 69, 3) := by decide +kernel
theorem dX4_takeSign_4 : decode cX4_takeSign 4 = .ok (.istore_n 2, 1) := by decide +kernel
theorem dX4_takeSign_5 : decode cX4_takeSign 5 = .ok (.aload_n 0, 1) := by decide +kernel
theorem dX4_takeSign_6 : decode cX4_takeSign 6 = .ok (.getfield 51, 3) := by decide +kernel
theorem dX4_takeSign_9 : decode cX4_takeSign 9 = .ok (.ifCond .ne 11, 3) := by decide +kernel
theorem dX4_takeSign_12 : decode cX4_takeSign 12 = .ok (.iload_n 2, 1) := by decide +kernel
theorem dX4_takeSign_13 : decode cX4_takeSign 13 = .ok (.invokestatic 87, 3) := by decide +kernel
theorem dX4_takeSign_16 : decode cX4_takeSign 16 = .ok (.iload_n 1, 1) := by decide +kernel
theorem dX4_takeSign_17 : decode cX4_takeSign 17 = .ok (.if_icmp .eq 5, 3) := by decide +kernel
theorem dX4_takeSign_20 : decode cX4_takeSign 20 = .ok (.iconst 0, 1) := by decide +kernel
theorem dX4_takeSign_21 : decode cX4_takeSign 21 = .ok (.ireturn, 1) := by decide +kernel
theorem dX4_takeSign_22 : decode cX4_takeSign 22 = .ok (.aload_n 0, 1) := by decide +kernel
theorem dX4_takeSign_23 : decode cX4_takeSign 23 = .ok (.dup, 1) := by decide +kernel
theorem dX4_takeSign_24 : decode cX4_takeSign 24 = .ok (.getfield 48, 3) := by decide +kernel
theorem dX4_takeSign_27 : decode cX4_takeSign 27 = .ok (.iconst 1, 1) := by decide +kernel
theorem dX4_takeSign_28 : decode cX4_takeSign 28 = .ok (.iadd, 1) := by decide +kernel
theorem dX4_takeSign_29 : decode cX4_takeSign 29 = .ok (.putfield 48, 3) := by decide +kernel
theorem dX4_takeSign_32 : decode cX4_takeSign 32 = .ok (.iload_n 2, 1) := by decide +kernel
theorem dX4_takeSign_33 : decode cX4_takeSign 33 = .ok (.ireturn, 1) := by decide +kernel
theorem dX4_levelOf_0 : decode cX4_levelOf 0 = .ok (.iload_n 0, 1) := by decide +kernel
theorem dX4_levelOf_1 : decode cX4_levelOf 1 = .ok (.lookupswitch 101 #[(37, 99), (38, 93), (42, 99), (43, 97), (45, 97), (47, 99), (60, 95), (61, 95), (62, 95), (124, 91)], 91) := by decide +kernel
theorem dX4_levelOf_92 : decode cX4_levelOf 92 = .ok (.iconst 0, 1) := by decide +kernel
theorem dX4_levelOf_93 : decode cX4_levelOf 93 = .ok (.ireturn, 1) := by decide +kernel
theorem dX4_levelOf_94 : decode cX4_levelOf 94 = .ok (.iconst 1, 1) := by decide +kernel
theorem dX4_levelOf_95 : decode cX4_levelOf 95 = .ok (.ireturn, 1) := by decide +kernel
theorem dX4_levelOf_96 : decode cX4_levelOf 96 = .ok (.iconst 2, 1) := by decide +kernel
theorem dX4_levelOf_97 : decode cX4_levelOf 97 = .ok (.ireturn, 1) := by decide +kernel
theorem dX4_levelOf_98 : decode cX4_levelOf 98 = .ok (.iconst 3, 1) := by decide +kernel
theorem dX4_levelOf_99 : decode cX4_levelOf 99 = .ok (.ireturn, 1) := by decide +kernel
theorem dX4_levelOf_100 : decode cX4_levelOf 100 = .ok (.iconst 4, 1) := by decide +kernel
theorem dX4_levelOf_101 : decode cX4_levelOf 101 = .ok (.ireturn, 1) := by decide +kernel
theorem dX4_levelOf_102 : decode cX4_levelOf 102 = .ok (.iconst 5, 1) := by decide +kernel
theorem dX4_levelOf_103 : decode cX4_levelOf 103 = .ok (.ireturn, 1) := by decide +kernel
theorem dX4_addStep_0 : decode cX4_addStep 0 = .ok (.aload_n 0, 1) := by decide +kernel
theorem dX4_addStep_1 : decode cX4_addStep 1 = .ok (.getfield 51, 3) := by decide +kernel
theorem dX4_addStep_4 : decode cX4_addStep 4 = .ok (.ifCond .ne 12, 3) := by decide +kernel
theorem dX4_addStep_7 : decode cX4_addStep 7 = .ok (.aload_n 0, 1) := by decide +kernel
theorem dX4_addStep_8 : decode cX4_addStep 8 = .ok (.getfield 22, 3) := by decide +kernel
theorem dX4_addStep_11 : decode cX4_addStep 11 = .ok (.bipush 60, 2) := by decide +kernel
theorem dX4_addStep_13 : decode cX4_addStep 13 = .ok (.if_icmp .lt 4, 3) := by decide +kernel
theorem dX4_addStep_16 : decode cX4_addStep 16 = .ok (.return_, 1) := by decide +kernel
theorem dX4_addStep_17 : decode cX4_addStep 17 = .ok (.aload_n 0, 1) := by decide +kernel
theorem dX4_addStep_18 : decode cX4_addStep 18 = .ok (.getfield 9, 3) := by decide +kernel
theorem dX4_addStep_21 : decode cX4_addStep 21 = .ok (.aload_n 0, 1) := by decide +kernel
theorem dX4_addStep_22 : decode cX4_addStep 22 = .ok (.getfield 22, 3) := by decide +kernel
theorem dX4_addStep_25 : decode cX4_addStep 25 = .ok (.iload_n 1, 1) := by decide +kernel
theorem dX4_addStep_26 : decode cX4_addStep 26 = .ok (.iastore, 1) := by decide +kernel
theorem dX4_addStep_27 : decode cX4_addStep 27 = .ok (.aload_n 0, 1) := by decide +kernel
theorem dX4_addStep_28 : decode cX4_addStep 28 = .ok (.dup, 1) := by decide +kernel
theorem dX4_addStep_29 : decode cX4_addStep 29 = .ok (.getfield 22, 3) := by decide +kernel
theorem dX4_addStep_32 : decode cX4_addStep 32 = .ok (.iconst 1, 1) := by decide +kernel
theorem dX4_addStep_33 : decode cX4_addStep 33 = .ok (.iadd, 1) := by decide +kernel
theorem dX4_addStep_34 : decode cX4_addStep 34 = .ok (.putfield 22, 3) := by decide +kernel
theorem dX4_addStep_37 : decode cX4_addStep 37 = .ok (.return_, 1) := by decide +kernel
theorem dX5_fountain_0 : decode cX5_fountain 0 = .ok (.iload_n 1, 1) := by decide +kernel
theorem dX5_fountain_1 : decode cX5_fountain 1 = .ok (.invokestatic 53, 3) := by decide +kernel
theorem dX5_fountain_4 : decode cX5_fountain 4 = .ok (.ifCond .eq 10, 3) := by decide +kernel
theorem dX5_fountain_7 : decode cX5_fountain 7 = .ok (.iload_n 2, 1) := by decide +kernel
theorem dX5_fountain_8 : decode cX5_fountain 8 = .ok (.invokestatic 57, 3) := by decide +kernel
theorem dX5_fountain_11 : decode cX5_fountain 11 = .ok (.ifCond .ne 9, 3) := by decide +kernel
theorem dX5_fountain_14 : decode cX5_fountain 14 = .ok (.aload_n 0, 1) := by decide +kernel
theorem dX5_fountain_15 : decode cX5_fountain 15 = .ok (.iconst 1, 1) := by decide +kernel
theorem dX5_fountain_16 : decode cX5_fountain 16 = .ok (.invokevirtual 60, 3) := by decide +kernel
theorem dX5_fountain_19 : decode cX5_fountain 19 = .ok (.ireturn, 1) := by decide +kernel
theorem dX5_fountain_20 : decode cX5_fountain 20 = .ok (.aload_n 0, 1) := by decide +kernel
theorem dX5_fountain_21 : decode cX5_fountain 21 = .ok (.getfield 10, 3) := by decide +kernel
theorem dX5_fountain_24 : decode cX5_fountain 24 = .ok (.getfield 64, 3) := by decide +kernel
theorem dX5_fountain_27 : decode cX5_fountain 27 = .ok (.bipush 8, 2) := by decide +kernel
theorem dX5_fountain_29 : decode cX5_fountain 29 = .ok (.if_icmp .lt 9, 3) := by decide +kernel
theorem dX5_fountain_32 : decode cX5_fountain 32 = .ok (.aload_n 0, 1) := by decide +kernel
theorem dX5_fountain_33 : decode cX5_fountain 33 = .ok (.iconst 4, 1) := by decide +kernel
theorem dX5_fountain_34 : decode cX5_fountain 34 = .ok (.invokevirtual 60, 3) := by decide +kernel
theorem dX5_fountain_37 : decode cX5_fountain 37 = .ok (.ireturn, 1) := by decide +kernel
theorem dX5_fountain_38 : decode cX5_fountain 38 = .ok (.aload_n 0, 1) := by decide +kernel
theorem dX5_fountain_39 : decode cX5_fountain 39 = .ok (.getfield 10, 3) := by decide +kernel
theorem dX5_fountain_42 : decode cX5_fountain 42 = .ok (.getfield 64, 3) := by decide +kernel
theorem dX5_fountain_45 : decode cX5_fountain 45 = .ok (.istore_n 3, 1) := by decide +kernel
theorem dX5_fountain_46 : decode cX5_fountain 46 = .ok (.aload_n 0, 1) := by decide +kernel
theorem dX5_fountain_47 : decode cX5_fountain 47 = .ok (.getfield 10, 3) := by decide +kernel
theorem dX5_fountain_50 : decode cX5_fountain 50 = .ok (.getfield 68, 3) := by decide +kernel
theorem dX5_fountain_53 : decode cX5_fountain 53 = .ok (.iload_n 3, 1) := by decide +kernel
theorem dX5_fountain_54 : decode cX5_fountain 54 = .ok (.iload_n 1, 1) := by decide +kernel
theorem dX5_fountain_55 : decode cX5_fountain 55 = .ok (.bipush 10, 2) := by decide +kernel
theorem dX5_fountain_57 : decode cX5_fountain 57 = .ok (.idiv, 1) := by decide +kernel
theorem dX5_fountain_58 : decode cX5_fountain 58 = .ok (.iastore, 1) := by decide +kernel
theorem dX5_fountain_59 : decode cX5_fountain 59 = .ok (.aload_n 0, 1) := by decide +kernel
theorem dX5_fountain_60 : decode cX5_fountain 60 = .ok (.getfield 10, 3) := by decide +kernel
theorem dX5_fountain_63 : decode cX5_fountain 63 = .ok (.getfield 71, 3) := by decide +kernel
theorem dX5_fountain_66 : decode cX5_fountain 66 = .ok (.iload_n 3, 1) := by decide +kernel
theorem dX5_fountain_67 : decode cX5_fountain 67 = .ok (.iload_n 1, 1) := by decide +kernel
theorem dX5_fountain_68 : decode cX5_fountain 68 = .ok (.bipush 10, 2) := by decide +kernel
theorem dX5_fountain_70 : decode cX5_fountain 70 = .ok (.irem, 1) := by decide +kernel
theorem dX5_fountain_71 : decode cX5_fountain 71 = .ok (.iastore, 1) := by decide +kernel
theorem dX5_fountain_72 : decode cX5_fountain 72 = .ok (.aload_n 0, 1) := by decide +kernel
theorem dX5_fountain_73 : decode cX5_fountain 73 = .ok (.getfield 10, 3) := by decide +kernel
theorem dX5_fountain_76 : decode cX5_fountain 76 = .ok (.getfield 74, 3) := by decide +kernel
theorem dX5_fountain_79 : decode cX5_fountain 79 = .ok (.iload_n 3, 1) := by decide +kernel
theorem dX5_fountain_80 : decode cX5_fountain 80 = .ok (.iload_n 2, 1) := by decide +kernel
theorem dX5_fountain_81 : decode cX5_fountain 81 = .ok (.iastore, 1) := by decide +kernel
theorem dX5_fountain_82 : decode cX5_fountain 82 = .ok (.aload_n 0, 1) := by decide +kernel
theorem dX5_fountain_83 : decode cX5_fountain 83 = .ok (.getfield 10, 3) := by decide +kernel
theorem dX5_fountain_86 : decode cX5_fountain 86 = .ok (.getfield 77, 3) := by decide +kernel
theorem dX5_fountain_89 : decode cX5_fountain 89 = .ok (.iload_n 3, 1) := by decide +kernel
theorem dX5_fountain_90 : decode cX5_fountain 90 = .ok (.iconst 0, 1) := by decide +kernel
theorem dX5_fountain_91 : decode cX5_fountain 91 = .ok (.iastore, 1) := by decide +kernel
theorem dX5_fountain_92 : decode cX5_fountain 92 = .ok (.aload_n 0, 1) := by decide +kernel
theorem dX5_fountain_93 : decode cX5_fountain 93 = .ok (.getfield 10, 3) := by decide +kernel
theorem dX5_fountain_96 : decode cX5_fountain 96 = .ok (.dup, 1) := by decide +kernel
theorem dX5_fountain_97 : decode cX5_fountain 97 = .ok (.getfield 64, 3) := by decide +kernel
theorem dX5_fountain_100 : decode cX5_fountain 100 = .ok (.iconst 1, 1) := by decide +kernel
theorem dX5_fountain_101 : decode cX5_fountain 101 = .ok (.iadd, 1) := by decide +kernel
theorem dX5_fountain_102 : decode cX5_fountain 102 = .ok (.putfield 64, 3) := by decide +kernel
theorem dX5_fountain_105 : decode cX5_fountain 105 = .ok (.iload_n 3, 1) := by decide +kernel
theorem dX5_fountain_106 : decode cX5_fountain 106 = .ok (.ireturn, 1) := by decide +kernel
theorem dX5_fountainIs_0 : decode cX5_fountainIs 0 = .ok (.aload_n 0, 1) := by decide +kernel
theorem dX5_fountainIs_1 : decode cX5_fountainIs 1 = .ok (.iload_n 1, 1) := by decide +kernel
theorem dX5_fountainIs_2 : decode cX5_fountainIs 2 = .ok (.invokevirtual 80, 3) := by decide +kernel
theorem dX5_fountainIs_5 : decode cX5_fountainIs 5 = .ok (.ifCond .ne 9, 3) := by decide +kernel
theorem dX5_fountainIs_8 : decode cX5_fountainIs 8 = .ok (.aload_n 0, 1) := by decide +kernel
theorem dX5_fountainIs_9 : decode cX5_fountainIs 9 = .ok (.iconst 1, 1) := by decide +kernel
theorem dX5_fountainIs_10 : decode cX5_fountainIs 10 = .ok (.invokevirtual 60, 3) := by decide +kernel
theorem dX5_fountainIs_13 : decode cX5_fountainIs 13 = .ok (.ireturn, 1) := by decide +kernel
theorem dX5_fountainIs_14 : decode cX5_fountainIs 14 = .ok (.iload_n 2, 1) := by decide +kernel
theorem dX5_fountainIs_15 : decode cX5_fountainIs 15 = .ok (.tableswitch 69 0 3 #[29, 39, 49, 59], 29) := by decide +kernel
theorem dX5_fountainIs_44 : decode cX5_fountainIs 44 = .ok (.aload_n 0, 1) := by decide +kernel
theorem dX5_fountainIs_45 : decode cX5_fountainIs 45 = .ok (.getfield 10, 3) := by decide +kernel
theorem dX5_fountainIs_48 : decode cX5_fountainIs 48 = .ok (.getfield 68, 3) := by decide +kernel
theorem dX5_fountainIs_51 : decode cX5_fountainIs 51 = .ok (.iload_n 1, 1) := by decide +kernel
theorem dX5_fountainIs_52 : decode cX5_fountainIs 52 = .ok (.iaload, 1) := by decide +kernel
theorem dX5_fountainIs_53 : decode cX5_fountainIs 53 = .ok (.ireturn, 1) := by decide +kernel
theorem dX5_fountainIs_54 : decode cX5_fountainIs 54 = .ok (.aload_n 0, 1) := by decide +kernel
theorem dX5_fountainIs_55 : decode cX5_fountainIs 55 = .ok (.getfield 10, 3) := by decide +kernel
theorem dX5_fountainIs_58 : decode cX5_fountainIs 58 = .ok (.getfield 71, 3) := by decide +kernel
theorem dX5_fountainIs_61 : decode cX5_fountainIs 61 = .ok (.iload_n 1, 1) := by decide +kernel
theorem dX5_fountainIs_62 : decode cX5_fountainIs 62 = .ok (.iaload, 1) := by decide +kernel
theorem dX5_fountainIs_63 : decode cX5_fountainIs 63 = .ok (.ireturn, 1) := by decide +kernel
theorem dX5_fountainIs_64 : decode cX5_fountainIs 64 = .ok (.aload_n 0, 1) := by decide +kernel
theorem dX5_fountainIs_65 : decode cX5_fountainIs 65 = .ok (.getfield 10, 3) := by decide +kernel
theorem dX5_fountainIs_68 : decode cX5_fountainIs 68 = .ok (.getfield 74, 3) := by decide +kernel
theorem dX5_fountainIs_71 : decode cX5_fountainIs 71 = .ok (.iload_n 1, 1) := by decide +kernel
theorem dX5_fountainIs_72 : decode cX5_fountainIs 72 = .ok (.iaload, 1) := by decide +kernel
theorem dX5_fountainIs_73 : decode cX5_fountainIs 73 = .ok (.ireturn, 1) := by decide +kernel
theorem dX5_fountainIs_74 : decode cX5_fountainIs 74 = .ok (.aload_n 0, 1) := by decide +kernel
theorem dX5_fountainIs_75 : decode cX5_fountainIs 75 = .ok (.getfield 10, 3) := by decide +kernel
theorem dX5_fountainIs_78 : decode cX5_fountainIs 78 = .ok (.getfield 77, 3) := by decide +kernel
theorem dX5_fountainIs_81 : decode cX5_fountainIs 81 = .ok (.iload_n 1, 1) := by decide +kernel
theorem dX5_fountainIs_82 : decode cX5_fountainIs 82 = .ok (.iaload, 1) := by decide +kernel
theorem dX5_fountainIs_83 : decode cX5_fountainIs 83 = .ok (.ireturn, 1) := by decide +kernel
theorem dX5_fountainIs_84 : decode cX5_fountainIs 84 = .ok (.aload_n 0, 1) := by decide +kernel
theorem dX5_fountainIs_85 : decode cX5_fountainIs 85 = .ok (.iconst 1, 1) := by decide +kernel
theorem dX5_fountainIs_86 : decode cX5_fountainIs 86 = .ok (.invokevirtual 60, 3) := by decide +kernel
theorem dX5_fountainIs_89 : decode cX5_fountainIs 89 = .ok (.ireturn, 1) := by decide +kernel
theorem dX5_become_0 : decode cX5_become 0 = .ok (.aload_n 0, 1) := by decide +kernel
theorem dX5_become_1 : decode cX5_become 1 = .ok (.iload_n 1, 1) := by decide +kernel
theorem dX5_become_2 : decode cX5_become 2 = .ok (.invokevirtual 80, 3) := by decide +kernel
theorem dX5_become_5 : decode cX5_become 5 = .ok (.ifCond .eq 10, 3) := by decide +kernel
theorem dX5_become_8 : decode cX5_become 8 = .ok (.iload_n 2, 1) := by decide +kernel
theorem dX5_become_9 : decode cX5_become 9 = .ok (.invokestatic 53, 3) := by decide +kernel
theorem dX5_become_12 : decode cX5_become 12 = .ok (.ifCond .ne 9, 3) := by decide +kernel
theorem dX5_become_15 : decode cX5_become 15 = .ok (.aload_n 0, 1) := by decide +kernel
theorem dX5_become_16 : decode cX5_become 16 = .ok (.iconst 1, 1) := by decide +kernel
theorem dX5_become_17 : decode cX5_become 17 = .ok (.invokevirtual 60, 3) := by decide +kernel
theorem dX5_become_20 : decode cX5_become 20 = .ok (.ireturn, 1) := by decide +kernel
theorem dX5_become_21 : decode cX5_become 21 = .ok (.aload_n 0, 1) := by decide +kernel
theorem dX5_become_22 : decode cX5_become 22 = .ok (.getfield 10, 3) := by decide +kernel
theorem dX5_become_25 : decode cX5_become 25 = .ok (.getfield 68, 3) := by decide +kernel
theorem dX5_become_28 : decode cX5_become 28 = .ok (.iload_n 1, 1) := by decide +kernel
theorem dX5_become_29 : decode cX5_become 29 = .ok (.iaload, 1) := by decide +kernel
theorem dX5_become_30 : decode cX5_become 30 = .ok (.istore_n 3, 1) := by decide +kernel
theorem dX5_become_31 : decode cX5_become 31 = .ok (.aload_n 0, 1) := by decide +kernel
theorem dX5_become_32 : decode cX5_become 32 = .ok (.getfield 10, 3) := by decide +kernel
theorem dX5_become_35 : decode cX5_become 35 = .ok (.getfield 68, 3) := by decide +kernel
theorem dX5_become_38 : decode cX5_become 38 = .ok (.iload_n 1, 1) := by decide +kernel
theorem dX5_become_39 : decode cX5_become 39 = .ok (.iload_n 2, 1) := by decide +kernel
theorem dX5_become_40 : decode cX5_become 40 = .ok (.bipush 10, 2) := by decide +kernel
theorem dX5_become_42 : decode cX5_become 42 = .ok (.idiv, 1) := by decide +kernel
theorem dX5_become_43 : decode cX5_become 43 = .ok (.iastore, 1) := by decide +kernel
theorem dX5_become_44 : decode cX5_become 44 = .ok (.aload_n 0, 1) := by decide +kernel
theorem dX5_become_45 : decode cX5_become 45 = .ok (.getfield 10, 3) := by decide +kernel
theorem dX5_become_48 : decode cX5_become 48 = .ok (.getfield 71, 3) := by decide +kernel
theorem dX5_become_51 : decode cX5_become 51 = .ok (.iload_n 1, 1) := by decide +kernel
theorem dX5_become_52 : decode cX5_become 52 = .ok (.iload_n 2, 1) := by decide +kernel
theorem dX5_become_53 : decode cX5_become 53 = .ok (.bipush 10, 2) := by decide +kernel
theorem dX5_become_55 : decode cX5_become 55 = .ok (.irem, 1) := by decide +kernel
theorem dX5_become_56 : decode cX5_become 56 = .ok (.iastore, 1) := by decide +kernel
theorem dX5_become_57 : decode cX5_become 57 = .ok (.iload_n 3, 1) := by decide +kernel
theorem dX5_become_58 : decode cX5_become 58 = .ok (.ireturn, 1) := by decide +kernel
theorem dX5_as_0 : decode cX5_as 0 = .ok (.aload_n 0, 1) := by decide +kernel
theorem dX5_as_1 : decode cX5_as 1 = .ok (.iload_n 1, 1) := by decide +kernel
theorem dX5_as_2 : decode cX5_as 2 = .ok (.invokevirtual 80, 3) := by decide +kernel
theorem dX5_as_5 : decode cX5_as 5 = .ok (.ifCond .eq 13, 3) := by decide +kernel
theorem dX5_as_8 : decode cX5_as 8 = .ok (.iload_n 2, 1) := by decide +kernel
theorem dX5_as_9 : decode cX5_as 9 = .ok (.ifCond .lt 9, 3) := by decide +kernel
theorem dX5_as_12 : decode cX5_as 12 = .ok (.iload_n 2, 1) := by decide +kernel
theorem dX5_as_13 : decode cX5_as 13 = .ok (.bipush 7, 2) := by decide +kernel
theorem dX5_as_15 : decode cX5_as 15 = .ok (.if_icmp .lt 9, 3) := by decide +kernel
theorem dX5_as_18 : decode cX5_as 18 = .ok (.aload_n 0, 1) := by decide +kernel
theorem dX5_as_19 : decode cX5_as 19 = .ok (.iconst 1, 1) := by decide +kernel
theorem dX5_as_20 : decode cX5_as 20 = .ok (.invokevirtual 60, 3) := by decide +kernel
theorem dX5_as_23 : decode cX5_as 23 = .ok (.ireturn, 1) := by decide +kernel
theorem dX5_as_24 : decode cX5_as 24 = .ok (.aload_n 0, 1) := by decide +kernel
theorem dX5_as_25 : decode cX5_as 25 = .ok (.getfield 10, 3) := by decide +kernel
theorem dX5_as_28 : decode cX5_as 28 = .ok (.getfield 68, 3) := by decide +kernel
theorem dX5_as_31 : decode cX5_as 31 = .ok (.iload_n 1, 1) := by decide +kernel
theorem dX5_as_32 : decode cX5_as 32 = .ok (.iaload, 1) := by decide +kernel
theorem dX5_as_33 : decode cX5_as 33 = .ok (.iload_n 2, 1) := by decide +kernel
theorem dX5_as_34 : decode cX5_as 34 = .ok (.invokestatic 83, 3) := by decide +kernel
theorem dX5_as_37 : decode cX5_as 37 = .ok (.ifCond .ne 9, 3) := by decide +kernel
theorem dX5_as_40 : decode cX5_as 40 = .ok (.aload_n 0, 1) := by decide +kernel
theorem dX5_as_41 : decode cX5_as 41 = .ok (.iconst 5, 1) := by decide +kernel
theorem dX5_as_42 : decode cX5_as 42 = .ok (.invokevirtual 60, 3) := by decide +kernel
theorem dX5_as_45 : decode cX5_as 45 = .ok (.ireturn, 1) := by decide +kernel
theorem dX5_as_46 : decode cX5_as 46 = .ok (.aload_n 0, 1) := by decide +kernel
theorem dX5_as_47 : decode cX5_as 47 = .ok (.getfield 10, 3) := by decide +kernel
theorem dX5_as_50 : decode cX5_as 50 = .ok (.getfield 71, 3) := by decide +kernel
theorem dX5_as_53 : decode cX5_as 53 = .ok (.iload_n 1, 1) := by decide +kernel
theorem dX5_as_54 : decode cX5_as 54 = .ok (.iaload, 1) := by decide +kernel
theorem dX5_as_55 : decode cX5_as 55 = .ok (.ireturn, 1) := by decide +kernel
theorem dX5_says_0 : decode cX5_says 0 = .ok (.aload_n 0, 1) := by decide +kernel
theorem dX5_says_1 : decode cX5_says 1 = .ok (.iload_n 1, 1) := by decide +kernel
theorem dX5_says_2 : decode cX5_says 2 = .ok (.iload_n 2, 1) := by decide +kernel
theorem dX5_says_3 : decode cX5_says 3 = .ok (.invokevirtual 87, 3) := by decide +kernel
theorem dX5_says_6 : decode cX5_says 6 = .ok (.ifCond .ne 9, 3) := by decide +kernel
theorem dX5_says_9 : decode cX5_says 9 = .ok (.aload_n 0, 1) := by decide +kernel
theorem dX5_says_10 : decode cX5_says 10 = .ok (.iconst 1, 1) := by decide +kernel
theorem dX5_says_11 : decode cX5_says 11 = .ok (.invokevirtual 60, 3) := by decide +kernel
theorem dX5_says_14 : decode cX5_says 14 = .ok (.ireturn, 1) := by decide +kernel
theorem dX5_says_15 : decode cX5_says 15 = .ok (.aload_n 0, 1) := by decide +kernel
theorem dX5_says_16 : decode cX5_says 16 = .ok (.getfield 10, 3) := by decide +kernel
theorem dX5_says_19 : decode cX5_says 19 = .ok (.iload_n 1, 1) := by decide +kernel
theorem dX5_says_20 : decode cX5_says 20 = .ok (.iload_n 2, 1) := by decide +kernel
theorem dX5_says_21 : decode cX5_says 21 = .ok (.invokevirtual 90, 3) := by decide +kernel
theorem dX5_says_24 : decode cX5_says 24 = .ok (.ireturn, 1) := by decide +kernel
theorem dX5_goesOn_0 : decode cX5_goesOn 0 = .ok (.aload_n 0, 1) := by decide +kernel
theorem dX5_goesOn_1 : decode cX5_goesOn 1 = .ok (.iload_n 1, 1) := by decide +kernel
theorem dX5_goesOn_2 : decode cX5_goesOn 2 = .ok (.iload_n 2, 1) := by decide +kernel
theorem dX5_goesOn_3 : decode cX5_goesOn 3 = .ok (.invokevirtual 87, 3) := by decide +kernel
theorem dX5_goesOn_6 : decode cX5_goesOn 6 = .ok (.ifCond .ne 9, 3) := by decide +kernel
theorem dX5_goesOn_9 : decode cX5_goesOn 9 = .ok (.aload_n 0, 1) := by decide +kernel
theorem dX5_goesOn_10 : decode cX5_goesOn 10 = .ok (.iconst 1, 1) := by decide +kernel
theorem dX5_goesOn_11 : decode cX5_goesOn 11 = .ok (.invokevirtual 60, 3) := by decide +kernel
theorem dX5_goesOn_14 : decode cX5_goesOn 14 = .ok (.ireturn, 1) := by decide +kernel
theorem dX5_goesOn_15 : decode cX5_goesOn 15 = .ok (.aload_n 0, 1) := by decide +kernel
theorem dX5_goesOn_16 : decode cX5_goesOn 16 = .ok (.getfield 10, 3) := by decide +kernel
theorem dX5_goesOn_19 : decode cX5_goesOn 19 = .ok (.iload_n 1, 1) := by decide +kernel
theorem dX5_goesOn_20 : decode cX5_goesOn 20 = .ok (.iload_n 2, 1) := by decide +kernel
theorem dX5_goesOn_21 : decode cX5_goesOn 21 = .ok (.invokevirtual 94, 3) := by decide +kernel
theorem dX5_goesOn_24 : decode cX5_goesOn 24 = .ok (.ifCond .eq 7, 3) := by decide +kernel
theorem dX5_goesOn_27 : decode cX5_goesOn 27 = .ok (.iconst 1, 1) := by decide +kernel
theorem dX5_goesOn_28 : decode cX5_goesOn 28 = .ok (.goto 4, 3) := by decide +kernel
theorem dX5_goesOn_31 : decode cX5_goesOn 31 = .ok (.iconst 0, 1) := by decide +kernel
theorem dX5_goesOn_32 : decode cX5_goesOn 32 = .ok (.ireturn, 1) := by decide +kernel
theorem dX5_pipe_0 : decode cX5_pipe 0 = .ok (.aload_n 0, 1) := by decide +kernel
theorem dX5_pipe_1 : decode cX5_pipe 1 = .ok (.iload_n 1, 1) := by decide +kernel
theorem dX5_pipe_2 : decode cX5_pipe 2 = .ok (.invokevirtual 80, 3) := by decide +kernel
theorem dX5_pipe_5 : decode cX5_pipe 5 = .ok (.ifCond .eq 22, 3) := by decide +kernel
theorem dX5_pipe_8 : decode cX5_pipe 8 = .ok (.aload_n 0, 1) := by decide +kernel
theorem dX5_pipe_9 : decode cX5_pipe 9 = .ok (.iload_n 2, 1) := by decide +kernel
theorem dX5_pipe_10 : decode cX5_pipe 10 = .ok (.invokevirtual 80, 3) := by decide +kernel
theorem dX5_pipe_13 : decode cX5_pipe 13 = .ok (.ifCond .eq 14, 3) := by decide +kernel
theorem dX5_pipe_16 : decode cX5_pipe 16 = .ok (.iload_n 3, 1) := by decide +kernel
theorem dX5_pipe_17 : decode cX5_pipe 17 = .ok (.iconst 1, 1) := by decide +kernel
theorem dX5_pipe_18 : decode cX5_pipe 18 = .ok (.if_icmp .lt 9, 3) := by decide +kernel
theorem dX5_pipe_21 : decode cX5_pipe 21 = .ok (.iload_n 3, 1) := by decide +kernel
theorem dX5_pipe_22 : decode cX5_pipe 22 = .ok (.bipush 9, 2) := by decide +kernel
theorem dX5_pipe_24 : decode cX5_pipe 24 = .ok (.if_icmp .le 9, 3) := by decide +kernel
theorem dX5_pipe_27 : decode cX5_pipe 27 = .ok (.aload_n 0, 1) := by decide +kernel
theorem dX5_pipe_28 : decode cX5_pipe 28 = .ok (.iconst 1, 1) := by decide +kernel
theorem dX5_pipe_29 : decode cX5_pipe 29 = .ok (.invokevirtual 60, 3) := by decide +kernel
theorem dX5_pipe_32 : decode cX5_pipe 32 = .ok (.ireturn, 1) := by decide +kernel
theorem dX5_pipe_33 : decode cX5_pipe 33 = .ok (.aload_n 0, 1) := by decide +kernel
theorem dX5_pipe_34 : decode cX5_pipe 34 = .ok (.getfield 10, 3) := by decide +kernel
theorem dX5_pipe_37 : decode cX5_pipe 37 = .ok (.getfield 74, 3) := by decide +kernel
theorem dX5_pipe_40 : decode cX5_pipe 40 = .ok (.iload_n 2, 1) := by decide +kernel
theorem dX5_pipe_41 : decode cX5_pipe 41 = .ok (.iaload, 1) := by decide +kernel
theorem dX5_pipe_42 : decode cX5_pipe 42 = .ok (.aload_n 0, 1) := by decide +kernel
theorem dX5_pipe_43 : decode cX5_pipe 43 = .ok (.getfield 10, 3) := by decide +kernel
theorem dX5_pipe_46 : decode cX5_pipe 46 = .ok (.getfield 74, 3) := by decide +kernel
theorem dX5_pipe_49 : decode cX5_pipe 49 = .ok (.iload_n 1, 1) := by decide +kernel
theorem dX5_pipe_50 : decode cX5_pipe 50 = .ok (.iaload, 1) := by decide +kernel
theorem dX5_pipe_51 : decode cX5_pipe 51 = .ok (.if_icmp .lt 9, 3) := by decide +kernel
theorem dX5_pipe_54 : decode cX5_pipe 54 = .ok (.aload_n 0, 1) := by decide +kernel
theorem dX5_pipe_55 : decode cX5_pipe 55 = .ok (.iconst 3, 1) := by decide +kernel
theorem dX5_pipe_56 : decode cX5_pipe 56 = .ok (.invokevirtual 60, 3) := by decide +kernel
theorem dX5_pipe_59 : decode cX5_pipe 59 = .ok (.ireturn, 1) := by decide +kernel
theorem dX5_pipe_60 : decode cX5_pipe 60 = .ok (.aload_n 0, 1) := by decide +kernel
theorem dX5_pipe_61 : decode cX5_pipe 61 = .ok (.getfield 10, 3) := by decide +kernel
theorem dX5_pipe_64 : decode cX5_pipe 64 = .ok (.getfield 97, 3) := by decide +kernel
theorem dX5_pipe_67 : decode cX5_pipe 67 = .ok (.bipush 9, 2) := by decide +kernel
theorem dX5_pipe_69 : decode cX5_pipe 69 = .ok (.if_icmp .lt 9, 3) := by decide +kernel
theorem dX5_pipe_72 : decode cX5_pipe 72 = .ok (.aload_n 0, 1) := by decide +kernel
theorem dX5_pipe_73 : decode cX5_pipe 73 = .ok (.iconst 4, 1) := by decide +kernel
theorem dX5_pipe_74 : decode cX5_pipe 74 = .ok (.invokevirtual 60, 3) := by decide +kernel
theorem dX5_pipe_77 : decode cX5_pipe 77 = .ok (.ireturn, 1) := by decide +kernel
theorem dX5_pipe_78 : decode cX5_pipe 78 = .ok (.aload_n 0, 1) := by decide +kernel
theorem dX5_pipe_79 : decode cX5_pipe 79 = .ok (.getfield 10, 3) := by decide +kernel
theorem dX5_pipe_82 : decode cX5_pipe 82 = .ok (.getfield 97, 3) := by decide +kernel
theorem dX5_pipe_85 : decode cX5_pipe 85 = .ok (.istore 4, 2) := by decide +kernel
theorem dX5_pipe_87 : decode cX5_pipe 87 = .ok (.aload_n 0, 1) := by decide +kernel
theorem dX5_pipe_88 : decode cX5_pipe 88 = .ok (.getfield 10, 3) := by decide +kernel
theorem dX5_pipe_91 : decode cX5_pipe 91 = .ok (.getfield 100, 3) := by decide +kernel
theorem dX5_pipe_94 : decode cX5_pipe 94 = .ok (.iload 4, 2) := by decide +kernel
theorem dX5_pipe_96 : decode cX5_pipe 96 = .ok (.iload_n 1, 1) := by decide +kernel
theorem dX5_pipe_97 : decode cX5_pipe 97 = .ok (.iastore, 1) := by decide +kernel
theorem dX5_pipe_98 : decode cX5_pipe 98 = .ok (.aload_n 0, 1) := by decide +kernel
theorem dX5_pipe_99 : decode cX5_pipe 99 = .ok (.getfield 10, 3) := by decide +kernel
theorem dX5_pipe_102 : decode cX5_pipe 102 = .ok (.getfield 103, 3) := by decide +kernel
theorem dX5_pipe_105 : decode cX5_pipe 105 = .ok (.iload 4, 2) := by decide +kernel
theorem dX5_pipe_107 : decode cX5_pipe 107 = .ok (.iload_n 2, 1) := by decide +kernel
theorem dX5_pipe_108 : decode cX5_pipe 108 = .ok (.iastore, 1) := by decide +kernel
theorem dX5_pipe_109 : decode cX5_pipe 109 = .ok (.aload_n 0, 1) := by decide +kernel
theorem dX5_pipe_110 : decode cX5_pipe 110 = .ok (.getfield 10, 3) := by decide +kernel
theorem dX5_pipe_113 : decode cX5_pipe 113 = .ok (.getfield 106, 3) := by decide +kernel
theorem dX5_pipe_116 : decode cX5_pipe 116 = .ok (.iload 4, 2) := by decide +kernel
theorem dX5_pipe_118 : decode cX5_pipe 118 = .ok (.iload_n 3, 1) := by decide +kernel
theorem dX5_pipe_119 : decode cX5_pipe 119 = .ok (.iastore, 1) := by decide +kernel
theorem dX5_pipe_120 : decode cX5_pipe 120 = .ok (.aload_n 0, 1) := by decide +kernel
theorem dX5_pipe_121 : decode cX5_pipe 121 = .ok (.getfield 10, 3) := by decide +kernel
theorem dX5_pipe_124 : decode cX5_pipe 124 = .ok (.dup, 1) := by decide +kernel
theorem dX5_pipe_125 : decode cX5_pipe 125 = .ok (.getfield 109, 3) := by decide +kernel
theorem dX5_pipe_128 : decode cX5_pipe 128 = .ok (.iconst 1, 1) := by decide +kernel
theorem dX5_pipe_129 : decode cX5_pipe 129 = .ok (.iload 4, 2) := by decide +kernel
theorem dX5_pipe_131 : decode cX5_pipe 131 = .ok (.ishl, 1) := by decide +kernel
theorem dX5_pipe_132 : decode cX5_pipe 132 = .ok (.ior, 1) := by decide +kernel
theorem dX5_pipe_133 : decode cX5_pipe 133 = .ok (.putfield 109, 3) := by decide +kernel
theorem dX5_pipe_136 : decode cX5_pipe 136 = .ok (.aload_n 0, 1) := by decide +kernel
theorem dX5_pipe_137 : decode cX5_pipe 137 = .ok (.getfield 10, 3) := by decide +kernel
theorem dX5_pipe_140 : decode cX5_pipe 140 = .ok (.dup, 1) := by decide +kernel
theorem dX5_pipe_141 : decode cX5_pipe 141 = .ok (.getfield 97, 3) := by decide +kernel
theorem dX5_pipe_144 : decode cX5_pipe 144 = .ok (.iconst 1, 1) := by decide +kernel
theorem dX5_pipe_145 : decode cX5_pipe 145 = .ok (.iadd, 1) := by decide +kernel
theorem dX5_pipe_146 : decode cX5_pipe 146 = .ok (.putfield 97, 3) := by decide +kernel
theorem dX5_pipe_149 : decode cX5_pipe 149 = .ok (.iload 4, 2) := by decide +kernel
theorem dX5_pipe_151 : decode cX5_pipe 151 = .ok (.ireturn, 1) := by decide +kernel
theorem dX5_pipeIs_0 : decode cX5_pipeIs 0 = .ok (.aload_n 0, 1) := by decide +kernel
theorem dX5_pipeIs_1 : decode cX5_pipeIs 1 = .ok (.iload_n 1, 1) := by decide +kernel
theorem dX5_pipeIs_2 : decode cX5_pipeIs 2 = .ok (.invokevirtual 112, 3) := by decide +kernel
theorem dX5_pipeIs_5 : decode cX5_pipeIs 5 = .ok (.ifCond .ne 9, 3) := by decide +kernel
theorem dX5_pipeIs_8 : decode cX5_pipeIs 8 = .ok (.aload_n 0, 1) := by decide +kernel
theorem dX5_pipeIs_9 : decode cX5_pipeIs 9 = .ok (.iconst 1, 1) := by decide +kernel
theorem dX5_pipeIs_10 : decode cX5_pipeIs 10 = .ok (.invokevirtual 60, 3) := by decide +kernel
theorem dX5_pipeIs_13 : decode cX5_pipeIs 13 = .ok (.ireturn, 1) := by decide +kernel
theorem dX5_pipeIs_14 : decode cX5_pipeIs 14 = .ok (.iload_n 2, 1) := by decide +kernel
theorem dX5_pipeIs_15 : decode cX5_pipeIs 15 = .ok (.tableswitch 84 0 4 #[33, 43, 53, 63, 75], 33) := by decide +kernel
theorem dX5_pipeIs_48 : decode cX5_pipeIs 48 = .ok (.aload_n 0, 1) := by decide +kernel
theorem dX5_pipeIs_49 : decode cX5_pipeIs 49 = .ok (.getfield 10, 3) := by decide +kernel
theorem dX5_pipeIs_52 : decode cX5_pipeIs 52 = .ok (.getfield 100, 3) := by decide +kernel
theorem dX5_pipeIs_55 : decode cX5_pipeIs 55 = .ok (.iload_n 1, 1) := by decide +kernel
theorem dX5_pipeIs_56 : decode cX5_pipeIs 56 = .ok (.iaload, 1) := by decide +kernel
theorem dX5_pipeIs_57 : decode cX5_pipeIs 57 = .ok (.ireturn, 1) := by decide +kernel
theorem dX5_pipeIs_58 : decode cX5_pipeIs 58 = .ok (.aload_n 0, 1) := by decide +kernel
theorem dX5_pipeIs_59 : decode cX5_pipeIs 59 = .ok (.getfield 10, 3) := by decide +kernel
theorem dX5_pipeIs_62 : decode cX5_pipeIs 62 = .ok (.getfield 103, 3) := by decide +kernel
theorem dX5_pipeIs_65 : decode cX5_pipeIs 65 = .ok (.iload_n 1, 1) := by decide +kernel
theorem dX5_pipeIs_66 : decode cX5_pipeIs 66 = .ok (.iaload, 1) := by decide +kernel
theorem dX5_pipeIs_67 : decode cX5_pipeIs 67 = .ok (.ireturn, 1) := by decide +kernel
theorem dX5_pipeIs_68 : decode cX5_pipeIs 68 = .ok (.aload_n 0, 1) := by decide +kernel
theorem dX5_pipeIs_69 : decode cX5_pipeIs 69 = .ok (.getfield 10, 3) := by decide +kernel
theorem dX5_pipeIs_72 : decode cX5_pipeIs 72 = .ok (.getfield 106, 3) := by decide +kernel
theorem dX5_pipeIs_75 : decode cX5_pipeIs 75 = .ok (.iload_n 1, 1) := by decide +kernel
theorem dX5_pipeIs_76 : decode cX5_pipeIs 76 = .ok (.iaload, 1) := by decide +kernel
theorem dX5_pipeIs_77 : decode cX5_pipeIs 77 = .ok (.ireturn, 1) := by decide +kernel
theorem dX5_pipeIs_78 : decode cX5_pipeIs 78 = .ok (.aload_n 0, 1) := by decide +kernel
theorem dX5_pipeIs_79 : decode cX5_pipeIs 79 = .ok (.getfield 10, 3) := by decide +kernel
theorem dX5_pipeIs_82 : decode cX5_pipeIs 82 = .ok (.getfield 109, 3) := by decide +kernel
theorem dX5_pipeIs_85 : decode cX5_pipeIs 85 = .ok (.iload_n 1, 1) := by decide +kernel
theorem dX5_pipeIs_86 : decode cX5_pipeIs 86 = .ok (.ishr, 1) := by decide +kernel
theorem dX5_pipeIs_87 : decode cX5_pipeIs 87 = .ok (.iconst 1, 1) := by decide +kernel
theorem dX5_pipeIs_88 : decode cX5_pipeIs 88 = .ok (.iand, 1) := by decide +kernel
theorem dX5_pipeIs_89 : decode cX5_pipeIs 89 = .ok (.ireturn, 1) := by decide +kernel
theorem dX5_pipeIs_90 : decode cX5_pipeIs 90 = .ok (.aload_n 0, 1) := by decide +kernel
theorem dX5_pipeIs_91 : decode cX5_pipeIs 91 = .ok (.getfield 10, 3) := by decide +kernel
theorem dX5_pipeIs_94 : decode cX5_pipeIs 94 = .ok (.iload_n 1, 1) := by decide +kernel
theorem dX5_pipeIs_95 : decode cX5_pipeIs 95 = .ok (.invokevirtual 115, 3) := by decide +kernel
theorem dX5_pipeIs_98 : decode cX5_pipeIs 98 = .ok (.ireturn, 1) := by decide +kernel
theorem dX5_pipeIs_99 : decode cX5_pipeIs 99 = .ok (.aload_n 0, 1) := by decide +kernel
theorem dX5_pipeIs_100 : decode cX5_pipeIs 100 = .ok (.iconst 1, 1) := by decide +kernel
theorem dX5_pipeIs_101 : decode cX5_pipeIs 101 = .ok (.invokevirtual 60, 3) := by decide +kernel
theorem dX5_pipeIs_104 : decode cX5_pipeIs 104 = .ok (.ireturn, 1) := by decide +kernel
theorem dX5_turn_0 : decode cX5_turn 0 = .ok (.aload_n 0, 1) := by decide +kernel
theorem dX5_turn_1 : decode cX5_turn 1 = .ok (.iload_n 1, 1) := by decide +kernel
theorem dX5_turn_2 : decode cX5_turn 2 = .ok (.invokevirtual 112, 3) := by decide +kernel
theorem dX5_turn_5 : decode cX5_turn 5 = .ok (.ifCond .eq 10, 3) := by decide +kernel
theorem dX5_turn_8 : decode cX5_turn 8 = .ok (.iload_n 2, 1) := by decide +kernel
theorem dX5_turn_9 : decode cX5_turn 9 = .ok (.invokestatic 118, 3) := by decide +kernel
theorem dX5_turn_12 : decode cX5_turn 12 = .ok (.ifCond .ne 9, 3) := by decide +kernel
theorem dX5_turn_15 : decode cX5_turn 15 = .ok (.aload_n 0, 1) := by decide +kernel
theorem dX5_turn_16 : decode cX5_turn 16 = .ok (.iconst 1, 1) := by decide +kernel
theorem dX5_turn_17 : decode cX5_turn 17 = .ok (.invokevirtual 60, 3) := by decide +kernel
theorem dX5_turn_20 : decode cX5_turn 20 = .ok (.ireturn, 1) := by decide +kernel
theorem dX5_turn_21 : decode cX5_turn 21 = .ok (.aload_n 0, 1) := by decide +kernel
theorem dX5_turn_22 : decode cX5_turn 22 = .ok (.getfield 10, 3) := by decide +kernel
theorem dX5_turn_25 : decode cX5_turn 25 = .ok (.getfield 109, 3) := by decide +kernel
theorem dX5_turn_28 : decode cX5_turn 28 = .ok (.iload_n 1, 1) := by decide +kernel
theorem dX5_turn_29 : decode cX5_turn 29 = .ok (.ishr, 1) := by decide +kernel
theorem dX5_turn_30 : decode cX5_turn 30 = .ok (.iconst 1, 1) := by decide +kernel
theorem dX5_turn_31 : decode cX5_turn 31 = .ok (.iand, 1) := by decide +kernel
theorem dX5_turn_32 : decode cX5_turn 32 = .ok (.istore_n 3, 1) := by decide +kernel
theorem dX5_turn_33 : decode cX5_turn 33 = .ok (.iload_n 2, 1) := by decide +kernel
theorem dX5_turn_34 : decode cX5_turn 34 = .ok (.iload_n 3, 1) := by decide +kernel
theorem dX5_turn_35 : decode cX5_turn 35 = .ok (.if_icmp .eq 18, 3) := by decide +kernel
theorem dX5_turn_38 : decode cX5_turn 38 = .ok (.aload_n 0, 1) := by decide +kernel
theorem dX5_turn_39 : decode cX5_turn 39 = .ok (.getfield 10, 3) := by decide +kernel
theorem dX5_turn_42 : decode cX5_turn 42 = .ok (.dup, 1) := by decide +kernel
theorem dX5_turn_43 : decode cX5_turn 43 = .ok (.getfield 109, 3) := by decide +kernel
theorem dX5_turn_46 : decode cX5_turn 46 = .ok (.iconst 1, 1) := by decide +kernel
theorem dX5_turn_47 : decode cX5_turn 47 = .ok (.iload_n 1, 1) := by decide +kernel
theorem dX5_turn_48 : decode cX5_turn 48 = .ok (.ishl, 1) := by decide +kernel
theorem dX5_turn_49 : decode cX5_turn 49 = .ok (.ixor, 1) := by decide +kernel
theorem dX5_turn_50 : decode cX5_turn 50 = .ok (.putfield 109, 3) := by decide +kernel
theorem dX5_turn_53 : decode cX5_turn 53 = .ok (.iload_n 3, 1) := by decide +kernel
theorem dX5_turn_54 : decode cX5_turn 54 = .ok (.ireturn, 1) := by decide +kernel
theorem dX5_freeze_0 : decode cX5_freeze 0 = .ok (.iload_n 1, 1) := by decide +kernel
theorem dX5_freeze_1 : decode cX5_freeze 1 = .ok (.invokestatic 57, 3) := by decide +kernel
theorem dX5_freeze_4 : decode cX5_freeze 4 = .ok (.ifCond .ne 9, 3) := by decide +kernel
theorem dX5_freeze_7 : decode cX5_freeze 7 = .ok (.aload_n 0, 1) := by decide +kernel
theorem dX5_freeze_8 : decode cX5_freeze 8 = .ok (.iconst 1, 1) := by decide +kernel
theorem dX5_freeze_9 : decode cX5_freeze 9 = .ok (.invokevirtual 60, 3) := by decide +kernel
theorem dX5_freeze_12 : decode cX5_freeze 12 = .ok (.ireturn, 1) := by decide +kernel
theorem dX5_freeze_13 : decode cX5_freeze 13 = .ok (.aload_n 0, 1) := by decide +kernel
theorem dX5_freeze_14 : decode cX5_freeze 14 = .ok (.getfield 10, 3) := by decide +kernel
theorem dX5_freeze_17 : decode cX5_freeze 17 = .ok (.getfield 121, 3) := by decide +kernel
theorem dX5_freeze_20 : decode cX5_freeze 20 = .ok (.istore_n 2, 1) := by decide +kernel
theorem dX5_freeze_21 : decode cX5_freeze 21 = .ok (.aload_n 0, 1) := by decide +kernel
theorem dX5_freeze_22 : decode cX5_freeze 22 = .ok (.getfield 10, 3) := by decide +kernel
theorem dX5_freeze_25 : decode cX5_freeze 25 = .ok (.iload_n 1, 1) := by decide +kernel
theorem dX5_freeze_26 : decode cX5_freeze 26 = .ok (.putfield 121, 3) := by decide +kernel
theorem dX5_freeze_29 : decode cX5_freeze 29 = .ok (.iload_n 2, 1) := by decide +kernel
theorem dX5_freeze_30 : decode cX5_freeze 30 = .ok (.ireturn, 1) := by decide +kernel
theorem dX5_feed_0 : decode cX5_feed 0 = .ok (.iload_n 3, 1) := by decide +kernel
theorem dX5_feed_1 : decode cX5_feed 1 = .ok (.iconst 1, 1) := by decide +kernel
theorem dX5_feed_2 : decode cX5_feed 2 = .ok (.if_icmp .lt 9, 3) := by decide +kernel
theorem dX5_feed_5 : decode cX5_feed 5 = .ok (.iload_n 3, 1) := by decide +kernel
theorem dX5_feed_6 : decode cX5_feed 6 = .ok (.bipush 8, 2) := by decide +kernel
theorem dX5_feed_8 : decode cX5_feed 8 = .ok (.if_icmp .le 9, 3) := by decide +kernel
theorem dX5_feed_11 : decode cX5_feed 11 = .ok (.aload_n 0, 1) := by decide +kernel
theorem dX5_feed_12 : decode cX5_feed 12 = .ok (.iconst 1, 1) := by decide +kernel
theorem dX5_feed_13 : decode cX5_feed 13 = .ok (.invokevirtual 60, 3) := by decide +kernel
theorem dX5_feed_16 : decode cX5_feed 16 = .ok (.ireturn, 1) := by decide +kernel
theorem dX5_feed_17 : decode cX5_feed 17 = .ok (.aload_n 0, 1) := by decide +kernel
theorem dX5_feed_18 : decode cX5_feed 18 = .ok (.getfield 10, 3) := by decide +kernel
theorem dX5_feed_21 : decode cX5_feed 21 = .ok (.getfield 124, 3) := by decide +kernel
theorem dX5_feed_24 : decode cX5_feed 24 = .ok (.iload_n 3, 1) := by decide +kernel
theorem dX5_feed_25 : decode cX5_feed 25 = .ok (.iadd, 1) := by decide +kernel
theorem dX5_feed_26 : decode cX5_feed 26 = .ok (.bipush 60, 2) := by decide +kernel
theorem dX5_feed_28 : decode cX5_feed 28 = .ok (.if_icmp .le 9, 3) := by decide +kernel
theorem dX5_feed_31 : decode cX5_feed 31 = .ok (.aload_n 0, 1) := by decide +kernel
theorem dX5_feed_32 : decode cX5_feed 32 = .ok (.iconst 4, 1) := by decide +kernel
theorem dX5_feed_33 : decode cX5_feed 33 = .ok (.invokevirtual 60, 3) := by decide +kernel
theorem dX5_feed_36 : decode cX5_feed 36 = .ok (.ireturn, 1) := by decide +kernel
theorem dX5_feed_37 : decode cX5_feed 37 = .ok (.iconst 0, 1) := by decide +kernel
theorem dX5_feed_38 : decode cX5_feed 38 = .ok (.istore 4, 2) := by decide +kernel
theorem dX5_feed_40 : decode cX5_feed 40 = .ok (.iload 4, 2) := by decide +kernel
theorem dX5_feed_42 : decode cX5_feed 42 = .ok (.iload_n 3, 1) := by decide +kernel
theorem dX5_feed_43 : decode cX5_feed 43 = .ok (.if_icmp .ge 39, 3) := by decide +kernel
theorem dX5_feed_46 : decode cX5_feed 46 = .ok (.aload_n 0, 1) := by decide +kernel
theorem dX5_feed_47 : decode cX5_feed 47 = .ok (.getfield 10, 3) := by decide +kernel
theorem dX5_feed_50 : decode cX5_feed 50 = .ok (.getfield 127, 3) := by decide +kernel
theorem dX5_feed_53 : decode cX5_feed 53 = .ok (.aload_n 0, 1) := by decide +kernel
theorem dX5_feed_54 : decode cX5_feed 54 = .ok (.getfield 10, 3) := by decide +kernel
theorem dX5_feed_57 : decode cX5_feed 57 = .ok (.getfield 124, 3) := by decide +kernel
theorem dX5_feed_60 : decode cX5_feed 60 = .ok (.iload 4, 2) := by decide +kernel
theorem dX5_feed_62 : decode cX5_feed 62 = .ok (.iadd, 1) := by decide +kernel
theorem dX5_feed_63 : decode cX5_feed 63 = .ok (.lload_n 1, 1) := by decide +kernel
theorem dX5_feed_64 : decode cX5_feed 64 = .ok (.bipush 8, 2) := by decide +kernel
theorem dX5_feed_66 : decode cX5_feed 66 = .ok (.iload 4, 2) := by decide +kernel
theorem dX5_feed_68 : decode cX5_feed 68 = .ok (.imul, 1) := by decide +kernel
theorem dX5_feed_69 : decode cX5_feed 69 = .ok (.lushr, 1) := by decide +kernel
theorem dX5_feed_70 : decode cX5_feed 70 = .ok (.l2i, 1) := by decide +kernel
theorem dX5_feed_71 : decode cX5_feed 71 = .ok (.sipush 255, 3) := by decide +kernel
theorem dX5_feed_74 : decode cX5_feed 74 = .ok (.iand, 1) := by decide +kernel
theorem dX5_feed_75 : decode cX5_feed 75 = .ok (.iastore, 1) := by decide +kernel
theorem dX5_feed_76 : decode cX5_feed 76 = .ok (.iinc 4 1, 3) := by decide +kernel
theorem dX5_feed_79 : decode cX5_feed 79 = .ok (.goto (-39), 3) := by decide +kernel
theorem dX5_feed_82 : decode cX5_feed 82 = .ok (.aload_n 0, 1) := by decide +kernel
theorem dX5_feed_83 : decode cX5_feed 83 = .ok (.getfield 10, 3) := by decide +kernel
theorem dX5_feed_86 : decode cX5_feed 86 = .ok (.dup, 1) := by decide +kernel
theorem dX5_feed_87 : decode cX5_feed 87 = .ok (.getfield 124, 3) := by decide +kernel
theorem dX5_feed_90 : decode cX5_feed 90 = .ok (.iload_n 3, 1) := by decide +kernel
theorem dX5_feed_91 : decode cX5_feed 91 = .ok (.iadd, 1) := by decide +kernel
theorem dX5_feed_92 : decode cX5_feed 92 = .ok (.putfield 124, 3) := by decide +kernel
theorem dX5_feed_95 : decode cX5_feed 95 = .ok (.aload_n 0, 1) := by decide +kernel
theorem dX5_feed_96 : decode cX5_feed 96 = .ok (.getfield 10, 3) := by decide +kernel
theorem dX5_feed_99 : decode cX5_feed 99 = .ok (.getfield 124, 3) := by decide +kernel
theorem dX5_feed_102 : decode cX5_feed 102 = .ok (.ireturn, 1) := by decide +kernel
theorem dX5_text_0 : decode cX5_text 0 = .ok (.iload_n 1, 1) := by decide +kernel
theorem dX5_text_1 : decode cX5_text 1 = .ok (.invokestatic 118, 3) := by decide +kernel
theorem dX5_text_4 : decode cX5_text 4 = .ok (.ifCond .ne 9, 3) := by decide +kernel
theorem dX5_text_7 : decode cX5_text 7 = .ok (.aload_n 0, 1) := by decide +kernel
theorem dX5_text_8 : decode cX5_text 8 = .ok (.iconst 1, 1) := by decide +kernel
theorem dX5_text_9 : decode cX5_text 9 = .ok (.invokevirtual 60, 3) := by decide +kernel
theorem dX5_text_12 : decode cX5_text 12 = .ok (.ireturn, 1) := by decide +kernel
theorem dX5_text_13 : decode cX5_text 13 = .ok (.aload_n 0, 1) := by decide +kernel
theorem dX5_text_14 : decode cX5_text 14 = .ok (.getfield 31, 3) := by decide +kernel
theorem dX5_text_17 : decode cX5_text 17 = .ok (.aload_n 0, 1) := by decide +kernel
theorem dX5_text_18 : decode cX5_text 18 = .ok (.getfield 10, 3) := by decide +kernel
theorem dX5_text_21 : decode cX5_text 21 = .ok (.getfield 127, 3) := by decide +kernel
theorem dX5_text_24 : decode cX5_text 24 = .ok (.aload_n 0, 1) := by decide +kernel
theorem dX5_text_25 : decode cX5_text 25 = .ok (.getfield 10, 3) := by decide +kernel
theorem dX5_text_28 : decode cX5_text 28 = .ok (.getfield 124, 3) := by decide +kernel
theorem dX5_text_31 : decode cX5_text 31 = .ok (.iload_n 1, 1) := by decide +kernel
theorem dX5_text_32 : decode cX5_text 32 = .ok (.ifCond .ne 8, 3) := by decide +kernel
theorem dX5_text_35 : decode cX5_text 35 = .ok (.ldc 130, 2) := by decide +kernel
theorem dX5_text_37 : decode cX5_text 37 = .ok (.goto 5, 3) := by decide +kernel
theorem dX5_text_40 : decode cX5_text 40 = .ok (.ldc 132, 2) := by decide +kernel
theorem dX5_text_42 : decode cX5_text 42 = .ok (.invokevirtual 134, 3) := by decide +kernel
theorem dX5_text_45 : decode cX5_text 45 = .ok (.istore_n 2, 1) := by decide +kernel
theorem dX5_text_46 : decode cX5_text 46 = .ok (.aload_n 0, 1) := by decide +kernel
theorem dX5_text_47 : decode cX5_text 47 = .ok (.getfield 10, 3) := by decide +kernel
theorem dX5_text_50 : decode cX5_text 50 = .ok (.iconst 0, 1) := by decide +kernel
theorem dX5_text_51 : decode cX5_text 51 = .ok (.putfield 124, 3) := by decide +kernel
theorem dX5_text_54 : decode cX5_text 54 = .ok (.iload_n 2, 1) := by decide +kernel
theorem dX5_text_55 : decode cX5_text 55 = .ok (.ifCond .lt 8, 3) := by decide +kernel
theorem dX5_text_58 : decode cX5_text 58 = .ok (.bipush (-10), 2) := by decide +kernel
theorem dX5_text_60 : decode cX5_text 60 = .ok (.iload_n 2, 1) := by decide +kernel
theorem dX5_text_61 : decode cX5_text 61 = .ok (.isub, 1) := by decide +kernel
theorem dX5_text_62 : decode cX5_text 62 = .ok (.ireturn, 1) := by decide +kernel
theorem dX5_text_63 : decode cX5_text 63 = .ok (.aload_n 0, 1) := by decide +kernel
theorem dX5_text_64 : decode cX5_text 64 = .ok (.getfield 10, 3) := by decide +kernel
theorem dX5_text_67 : decode cX5_text 67 = .ok (.getfield 138, 3) := by decide +kernel
theorem dX5_text_70 : decode cX5_text 70 = .ok (.iload_n 1, 1) := by decide +kernel
theorem dX5_text_71 : decode cX5_text 71 = .ok (.aaload, 1) := by decide +kernel
theorem dX5_text_72 : decode cX5_text 72 = .ok (.aload_n 0, 1) := by decide +kernel
theorem dX5_text_73 : decode cX5_text 73 = .ok (.getfield 31, 3) := by decide +kernel
theorem dX5_text_76 : decode cX5_text 76 = .ok (.invokevirtual 142, 3) := by decide +kernel
theorem dX5_text_79 : decode cX5_text 79 = .ok (.iconst 1, 1) := by decide +kernel
theorem dX5_text_80 : decode cX5_text 80 = .ok (.ireturn, 1) := by decide +kernel
theorem dX5_untell_0 : decode cX5_untell 0 = .ok (.iload_n 1, 1) := by decide +kernel
theorem dX5_untell_1 : decode cX5_untell 1 = .ok (.invokestatic 118, 3) := by decide +kernel
theorem dX5_untell_4 : decode cX5_untell 4 = .ok (.ifCond .ne 9, 3) := by decide +kernel
theorem dX5_untell_7 : decode cX5_untell 7 = .ok (.aload_n 0, 1) := by decide +kernel
theorem dX5_untell_8 : decode cX5_untell 8 = .ok (.iconst 1, 1) := by decide +kernel
theorem dX5_untell_9 : decode cX5_untell 9 = .ok (.invokevirtual 60, 3) := by decide +kernel
theorem dX5_untell_12 : decode cX5_untell 12 = .ok (.ireturn, 1) := by decide +kernel
theorem dX5_untell_13 : decode cX5_untell 13 = .ok (.aload_n 0, 1) := by decide +kernel
theorem dX5_untell_14 : decode cX5_untell 14 = .ok (.getfield 10, 3) := by decide +kernel
theorem dX5_untell_17 : decode cX5_untell 17 = .ok (.getfield 138, 3) := by decide +kernel
theorem dX5_untell_20 : decode cX5_untell 20 = .ok (.iload_n 1, 1) := by decide +kernel
theorem dX5_untell_21 : decode cX5_untell 21 = .ok (.aaload, 1) := by decide +kernel
theorem dX5_untell_22 : decode cX5_untell 22 = .ok (.getfield 146, 3) := by decide +kernel
theorem dX5_untell_25 : decode cX5_untell 25 = .ok (.ifCond .eq 7, 3) := by decide +kernel
theorem dX5_untell_28 : decode cX5_untell 28 = .ok (.iconst 1, 1) := by decide +kernel
theorem dX5_untell_29 : decode cX5_untell 29 = .ok (.goto 4, 3) := by decide +kernel
theorem dX5_untell_32 : decode cX5_untell 32 = .ok (.iconst 0, 1) := by decide +kernel
theorem dX5_untell_33 : decode cX5_untell 33 = .ok (.istore_n 2, 1) := by decide +kernel
theorem dX5_untell_34 : decode cX5_untell 34 = .ok (.aload_n 0, 1) := by decide +kernel
theorem dX5_untell_35 : decode cX5_untell 35 = .ok (.getfield 10, 3) := by decide +kernel
theorem dX5_untell_38 : decode cX5_untell 38 = .ok (.getfield 138, 3) := by decide +kernel
theorem dX5_untell_41 : decode cX5_untell 41 = .ok (.iload_n 1, 1) := by decide +kernel
theorem dX5_untell_42 : decode cX5_untell 42 = .ok (.aaload, 1) := by decide +kernel
theorem dX5_untell_43 : decode cX5_untell 43 = .ok (.iconst 0, 1) := by decide +kernel
theorem dX5_untell_44 : decode cX5_untell 44 = .ok (.putfield 146, 3) := by decide +kernel
theorem dX5_untell_47 : decode cX5_untell 47 = .ok (.iload_n 2, 1) := by decide +kernel
theorem dX5_untell_48 : decode cX5_untell 48 = .ok (.ireturn, 1) := by decide +kernel
theorem dX5_law_0 : decode cX5_law 0 = .ok (.iload_n 1, 1) := by decide +kernel
theorem dX5_law_1 : decode cX5_law 1 = .ok (.invokestatic 118, 3) := by decide +kernel
theorem dX5_law_4 : decode cX5_law 4 = .ok (.ifCond .ne 9, 3) := by decide +kernel
theorem dX5_law_7 : decode cX5_law 7 = .ok (.aload_n 0, 1) := by decide +kernel
theorem dX5_law_8 : decode cX5_law 8 = .ok (.iconst 1, 1) := by decide +kernel
theorem dX5_law_9 : decode cX5_law 9 = .ok (.invokevirtual 60, 3) := by decide +kernel
theorem dX5_law_12 : decode cX5_law 12 = .ok (.ireturn, 1) := by decide +kernel
theorem dX5_law_13 : decode cX5_law 13 = .ok (.aload_n 0, 1) := by decide +kernel
theorem dX5_law_14 : decode cX5_law 14 = .ok (.getfield 10, 3) := by decide +kernel
theorem dX5_law_17 : decode cX5_law 17 = .ok (.iload_n 1, 1) := by decide +kernel
theorem dX5_law_18 : decode cX5_law 18 = .ok (.iload_n 2, 1) := by decide +kernel
theorem dX5_law_19 : decode cX5_law 19 = .ok (.iload_n 3, 1) := by decide +kernel
theorem dX5_law_20 : decode cX5_law 20 = .ok (.iload 4, 2) := by decide +kernel
theorem dX5_law_22 : decode cX5_law 22 = .ok (.invokevirtual 150, 3) := by decide +kernel
theorem dX5_law_25 : decode cX5_law 25 = .ok (.ireturn, 1) := by decide +kernel
theorem dX5_hears_0 : decode cX5_hears 0 = .ok (.aload_n 0, 1) := by decide +kernel
theorem dX5_hears_1 : decode cX5_hears 1 = .ok (.iload_n 1, 1) := by decide +kernel
theorem dX5_hears_2 : decode cX5_hears 2 = .ok (.iload_n 2, 1) := by decide +kernel
theorem dX5_hears_3 : decode cX5_hears 3 = .ok (.invokevirtual 87, 3) := by decide +kernel
theorem dX5_hears_6 : decode cX5_hears 6 = .ok (.ifCond .ne 9, 3) := by decide +kernel
theorem dX5_hears_9 : decode cX5_hears 9 = .ok (.aload_n 0, 1) := by decide +kernel
theorem dX5_hears_10 : decode cX5_hears 10 = .ok (.iconst 1, 1) := by decide +kernel
theorem dX5_hears_11 : decode cX5_hears 11 = .ok (.invokevirtual 60, 3) := by decide +kernel
theorem dX5_hears_14 : decode cX5_hears 14 = .ok (.ireturn, 1) := by decide +kernel
theorem dX5_hears_15 : decode cX5_hears 15 = .ok (.aload_n 0, 1) := by decide +kernel
theorem dX5_hears_16 : decode cX5_hears 16 = .ok (.getfield 24, 3) := by decide +kernel
theorem dX5_hears_19 : decode cX5_hears 19 = .ok (.invokevirtual 154, 3) := by decide +kernel
theorem dX5_hears_22 : decode cX5_hears 22 = .ok (.aload_n 0, 1) := by decide +kernel
theorem dX5_hears_23 : decode cX5_hears 23 = .ok (.getfield 24, 3) := by decide +kernel
theorem dX5_hears_26 : decode cX5_hears 26 = .ok (.iload_n 1, 1) := by decide +kernel
theorem dX5_hears_27 : decode cX5_hears 27 = .ok (.iload_n 2, 1) := by decide +kernel
theorem dX5_hears_28 : decode cX5_hears 28 = .ok (.aload_n 0, 1) := by decide +kernel
theorem dX5_hears_29 : decode cX5_hears 29 = .ok (.getfield 10, 3) := by decide +kernel
theorem dX5_hears_32 : decode cX5_hears 32 = .ok (.getfield 109, 3) := by decide +kernel
theorem dX5_hears_35 : decode cX5_hears 35 = .ok (.invokevirtual 157, 3) := by decide +kernel
theorem dX5_hears_38 : decode cX5_hears 38 = .ok (.aload_n 0, 1) := by decide +kernel
theorem dX5_hears_39 : decode cX5_hears 39 = .ok (.getfield 24, 3) := by decide +kernel
theorem dX5_hears_42 : decode cX5_hears 42 = .ok (.getfield 161, 3) := by decide +kernel
theorem dX5_hears_45 : decode cX5_hears 45 = .ok (.ireturn, 1) := by decide +kernel
theorem dX5_heard_0 : decode cX5_heard 0 = .ok (.aload_n 0, 1) := by decide +kernel
theorem dX5_heard_1 : decode cX5_heard 1 = .ok (.iload_n 1, 1) := by decide +kernel
theorem dX5_heard_2 : decode cX5_heard 2 = .ok (.iload_n 2, 1) := by decide +kernel
theorem dX5_heard_3 : decode cX5_heard 3 = .ok (.invokevirtual 87, 3) := by decide +kernel
theorem dX5_heard_6 : decode cX5_heard 6 = .ok (.ifCond .eq 19, 3) := by decide +kernel
theorem dX5_heard_9 : decode cX5_heard 9 = .ok (.aload_n 0, 1) := by decide +kernel
theorem dX5_heard_10 : decode cX5_heard 10 = .ok (.iload_n 3, 1) := by decide +kernel
theorem dX5_heard_11 : decode cX5_heard 11 = .ok (.invokevirtual 80, 3) := by decide +kernel
theorem dX5_heard_14 : decode cX5_heard 14 = .ok (.ifCond .eq 11, 3) := by decide +kernel
theorem dX5_heard_17 : decode cX5_heard 17 = .ok (.iload 4, 2) := by decide +kernel
theorem dX5_heard_19 : decode cX5_heard 19 = .ok (.invokestatic 118, 3) := by decide +kernel
theorem dX5_heard_22 : decode cX5_heard 22 = .ok (.ifCond .ne 9, 3) := by decide +kernel
theorem dX5_heard_25 : decode cX5_heard 25 = .ok (.aload_n 0, 1) := by decide +kernel
theorem dX5_heard_26 : decode cX5_heard 26 = .ok (.iconst 1, 1) := by decide +kernel
theorem dX5_heard_27 : decode cX5_heard 27 = .ok (.invokevirtual 60, 3) := by decide +kernel
theorem dX5_heard_30 : decode cX5_heard 30 = .ok (.ireturn, 1) := by decide +kernel
theorem dX5_heard_31 : decode cX5_heard 31 = .ok (.aload_n 0, 1) := by decide +kernel
theorem dX5_heard_32 : decode cX5_heard 32 = .ok (.getfield 24, 3) := by decide +kernel
theorem dX5_heard_35 : decode cX5_heard 35 = .ok (.invokevirtual 154, 3) := by decide +kernel
theorem dX5_heard_38 : decode cX5_heard 38 = .ok (.aload_n 0, 1) := by decide +kernel
theorem dX5_heard_39 : decode cX5_heard 39 = .ok (.getfield 24, 3) := by decide +kernel
theorem dX5_heard_42 : decode cX5_heard 42 = .ok (.iload_n 1, 1) := by decide +kernel
theorem dX5_heard_43 : decode cX5_heard 43 = .ok (.iload_n 2, 1) := by decide +kernel
theorem dX5_heard_44 : decode cX5_heard 44 = .ok (.aload_n 0, 1) := by decide +kernel
theorem dX5_heard_45 : decode cX5_heard 45 = .ok (.getfield 10, 3) := by decide +kernel
theorem dX5_heard_48 : decode cX5_heard 48 = .ok (.getfield 109, 3) := by decide +kernel
theorem dX5_heard_51 : decode cX5_heard 51 = .ok (.invokevirtual 157, 3) := by decide +kernel
theorem dX5_heard_54 : decode cX5_heard 54 = .ok (.aload_n 0, 1) := by decide +kernel
theorem dX5_heard_55 : decode cX5_heard 55 = .ok (.getfield 24, 3) := by decide +kernel
theorem dX5_heard_58 : decode cX5_heard 58 = .ok (.iload_n 3, 1) := by decide +kernel
theorem dX5_heard_59 : decode cX5_heard 59 = .ok (.invokevirtual 164, 3) := by decide +kernel
theorem dX5_heard_62 : decode cX5_heard 62 = .ok (.ifCond .ne 9, 3) := by decide +kernel
theorem dX5_heard_65 : decode cX5_heard 65 = .ok (.aload_n 0, 1) := by decide +kernel
theorem dX5_heard_66 : decode cX5_heard 66 = .ok (.iconst 2, 1) := by decide +kernel
theorem dX5_heard_67 : decode cX5_heard 67 = .ok (.invokevirtual 60, 3) := by decide +kernel
theorem dX5_heard_70 : decode cX5_heard 70 = .ok (.ireturn, 1) := by decide +kernel
theorem dX5_heard_71 : decode cX5_heard 71 = .ok (.iload 4, 2) := by decide +kernel
theorem dX5_heard_73 : decode cX5_heard 73 = .ok (.ifCond .ne 15, 3) := by decide +kernel
theorem dX5_heard_76 : decode cX5_heard 76 = .ok (.aload_n 0, 1) := by decide +kernel
theorem dX5_heard_77 : decode cX5_heard 77 = .ok (.getfield 24, 3) := by decide +kernel
theorem dX5_heard_80 : decode cX5_heard 80 = .ok (.getfield 167, 3) := by decide +kernel
theorem dX5_heard_83 : decode cX5_heard 83 = .ok (.iload_n 3, 1) := by decide +kernel
theorem dX5_heard_84 : decode cX5_heard 84 = .ok (.iaload, 1) := by decide +kernel
theorem dX5_heard_85 : decode cX5_heard 85 = .ok (.goto 12, 3) := by decide +kernel
theorem dX5_heard_88 : decode cX5_heard 88 = .ok (.aload_n 0, 1) := by decide +kernel
theorem dX5_heard_89 : decode cX5_heard 89 = .ok (.getfield 24, 3) := by decide +kernel
theorem dX5_heard_92 : decode cX5_heard 92 = .ok (.getfield 170, 3) := by decide +kernel
theorem dX5_heard_95 : decode cX5_heard 95 = .ok (.iload_n 3, 1) := by decide +kernel
theorem dX5_heard_96 : decode cX5_heard 96 = .ok (.iaload, 1) := by decide +kernel
theorem dX5_heard_97 : decode cX5_heard 97 = .ok (.ireturn, 1) := by decide +kernel
theorem dX5_let_0 : decode cX5_let 0 = .ok (.aload_n 0, 1) := by decide +kernel
theorem dX5_let_1 : decode cX5_let 1 = .ok (.iload_n 1, 1) := by decide +kernel
theorem dX5_let_2 : decode cX5_let 2 = .ok (.iload_n 2, 1) := by decide +kernel
theorem dX5_let_3 : decode cX5_let 3 = .ok (.invokevirtual 87, 3) := by decide +kernel
theorem dX5_let_6 : decode cX5_let 6 = .ok (.ifCond .ne 9, 3) := by decide +kernel
theorem dX5_let_9 : decode cX5_let 9 = .ok (.aload_n 0, 1) := by decide +kernel
theorem dX5_let_10 : decode cX5_let 10 = .ok (.iconst 1, 1) := by decide +kernel
theorem dX5_let_11 : decode cX5_let 11 = .ok (.invokevirtual 60, 3) := by decide +kernel
theorem dX5_let_14 : decode cX5_let 14 = .ok (.ireturn, 1) := by decide +kernel
theorem dX5_let_15 : decode cX5_let 15 = .ok (.aload_n 0, 1) := by decide +kernel
theorem dX5_let_16 : decode cX5_let 16 = .ok (.iload_n 1, 1) := by decide +kernel
theorem dX5_let_17 : decode cX5_let 17 = .ok (.iload_n 2, 1) := by decide +kernel
theorem dX5_let_18 : decode cX5_let 18 = .ok (.invokevirtual 173, 3) := by decide +kernel
theorem dX5_let_21 : decode cX5_let 21 = .ok (.ireturn, 1) := by decide +kernel
theorem dX5_days_0 : decode cX5_days 0 = .ok (.iload_n 1, 1) := by decide +kernel
theorem dX5_days_1 : decode cX5_days 1 = .ok (.iconst 1, 1) := by decide +kernel
theorem dX5_days_2 : decode cX5_days 2 = .ok (.if_icmp .lt 9, 3) := by decide +kernel
theorem dX5_days_5 : decode cX5_days 5 = .ok (.iload_n 1, 1) := by decide +kernel
theorem dX5_days_6 : decode cX5_days 6 = .ok (.bipush 30, 2) := by decide +kernel
theorem dX5_days_8 : decode cX5_days 8 = .ok (.if_icmp .le 9, 3) := by decide +kernel
theorem dX5_days_11 : decode cX5_days 11 = .ok (.aload_n 0, 1) := by decide +kernel
theorem dX5_days_12 : decode cX5_days 12 = .ok (.iconst 1, 1) := by decide +kernel
theorem dX5_days_13 : decode cX5_days 13 = .ok (.invokevirtual 60, 3) := by decide +kernel
theorem dX5_days_16 : decode cX5_days 16 = .ok (.ireturn, 1) := by decide +kernel
theorem dX5_days_17 : decode cX5_days 17 = .ok (.aload_n 0, 1) := by decide +kernel
theorem dX5_days_18 : decode cX5_days 18 = .ok (.getfield 10, 3) := by decide +kernel
theorem dX5_days_21 : decode cX5_days 21 = .ok (.getfield 176, 3) := by decide +kernel
theorem dX5_days_24 : decode cX5_days 24 = .ok (.iload_n 1, 1) := by decide +kernel
theorem dX5_days_25 : decode cX5_days 25 = .ok (.iadd, 1) := by decide +kernel
theorem dX5_days_26 : decode cX5_days 26 = .ok (.sipush 9999, 3) := by decide +kernel
theorem dX5_days_29 : decode cX5_days 29 = .ok (.if_icmp .le 9, 3) := by decide +kernel
theorem dX5_days_32 : decode cX5_days 32 = .ok (.aload_n 0, 1) := by decide +kernel
theorem dX5_days_33 : decode cX5_days 33 = .ok (.iconst 3, 1) := by decide +kernel
theorem dX5_days_34 : decode cX5_days 34 = .ok (.invokevirtual 60, 3) := by decide +kernel
theorem dX5_days_37 : decode cX5_days 37 = .ok (.ireturn, 1) := by decide +kernel
theorem dX5_days_38 : decode cX5_days 38 = .ok (.iconst 0, 1) := by decide +kernel
theorem dX5_days_39 : decode cX5_days 39 = .ok (.istore_n 2, 1) := by decide +kernel
theorem dX5_days_40 : decode cX5_days 40 = .ok (.iload_n 2, 1) := by decide +kernel
theorem dX5_days_41 : decode cX5_days 41 = .ok (.iload_n 1, 1) := by decide +kernel
theorem dX5_days_42 : decode cX5_days 42 = .ok (.if_icmp .ge 16, 3) := by decide +kernel
theorem dX5_days_45 : decode cX5_days 45 = .ok (.aload_n 0, 1) := by decide +kernel
theorem dX5_days_46 : decode cX5_days 46 = .ok (.getfield 10, 3) := by decide +kernel
theorem dX5_days_49 : decode cX5_days 49 = .ok (.invokevirtual 179, 3) := by decide +kernel
theorem dX5_days_52 : decode cX5_days 52 = .ok (.iinc 2 1, 3) := by decide +kernel
theorem dX5_days_55 : decode cX5_days 55 = .ok (.goto (-15), 3) := by decide +kernel
theorem dX5_days_58 : decode cX5_days 58 = .ok (.aload_n 0, 1) := by decide +kernel
theorem dX5_days_59 : decode cX5_days 59 = .ok (.getfield 10, 3) := by decide +kernel
theorem dX5_days_62 : decode cX5_days 62 = .ok (.getfield 176, 3) := by decide +kernel
theorem dX5_days_65 : decode cX5_days 65 = .ok (.ireturn, 1) := by decide +kernel
theorem dX5_loose_0 : decode cX5_loose 0 = .ok (.iload_n 1, 1) := by decide +kernel
theorem dX5_loose_1 : decode cX5_loose 1 = .ok (.iconst 1, 1) := by decide +kernel
theorem dX5_loose_2 : decode cX5_loose 2 = .ok (.if_icmp .lt 9, 3) := by decide +kernel
theorem dX5_loose_5 : decode cX5_loose 5 = .ok (.iload_n 1, 1) := by decide +kernel
theorem dX5_loose_6 : decode cX5_loose 6 = .ok (.bipush 20, 2) := by decide +kernel
theorem dX5_loose_8 : decode cX5_loose 8 = .ok (.if_icmp .le 9, 3) := by decide +kernel
theorem dX5_loose_11 : decode cX5_loose 11 = .ok (.aload_n 0, 1) := by decide +kernel
theorem dX5_loose_12 : decode cX5_loose 12 = .ok (.iconst 1, 1) := by decide +kernel
theorem dX5_loose_13 : decode cX5_loose 13 = .ok (.invokevirtual 60, 3) := by decide +kernel
theorem dX5_loose_16 : decode cX5_loose 16 = .ok (.ireturn, 1) := by decide +kernel
theorem dX5_loose_17 : decode cX5_loose 17 = .ok (.aload_n 0, 1) := by decide +kernel
theorem dX5_loose_18 : decode cX5_loose 18 = .ok (.getfield 10, 3) := by decide +kernel
theorem dX5_loose_21 : decode cX5_loose 21 = .ok (.getfield 176, 3) := by decide +kernel
theorem dX5_loose_24 : decode cX5_loose 24 = .ok (.iload_n 1, 1) := by decide +kernel
theorem dX5_loose_25 : decode cX5_loose 25 = .ok (.iadd, 1) := by decide +kernel
theorem dX5_loose_26 : decode cX5_loose 26 = .ok (.sipush 9999, 3) := by decide +kernel
theorem dX5_loose_29 : decode cX5_loose 29 = .ok (.if_icmp .le 9, 3) := by decide +kernel
theorem dX5_loose_32 : decode cX5_loose 32 = .ok (.aload_n 0, 1) := by decide +kernel
theorem dX5_loose_33 : decode cX5_loose 33 = .ok (.iconst 3, 1) := by decide +kernel
theorem dX5_loose_34 : decode cX5_loose 34 = .ok (.invokevirtual 60, 3) := by decide +kernel
theorem dX5_loose_37 : decode cX5_loose 37 = .ok (.ireturn, 1) := by decide +kernel
theorem dX5_loose_38 : decode cX5_loose 38 = .ok (.iconst 0, 1) := by decide +kernel
theorem dX5_loose_39 : decode cX5_loose 39 = .ok (.istore_n 2, 1) := by decide +kernel
theorem dX5_loose_40 : decode cX5_loose 40 = .ok (.iconst 0, 1) := by decide +kernel
theorem dX5_loose_41 : decode cX5_loose 41 = .ok (.istore_n 3, 1) := by decide +kernel
theorem dX5_loose_42 : decode cX5_loose 42 = .ok (.iload_n 3, 1) := by decide +kernel
theorem dX5_loose_43 : decode cX5_loose 43 = .ok (.iload_n 1, 1) := by decide +kernel
theorem dX5_loose_44 : decode cX5_loose 44 = .ok (.if_icmp .ge 87, 3) := by decide +kernel
theorem dX5_loose_47 : decode cX5_loose 47 = .ok (.aload_n 0, 1) := by decide +kernel
theorem dX5_loose_48 : decode cX5_loose 48 = .ok (.getfield 10, 3) := by decide +kernel
theorem dX5_loose_51 : decode cX5_loose 51 = .ok (.aload_n 0, 1) := by decide +kernel
theorem dX5_loose_52 : decode cX5_loose 52 = .ok (.getfield 10, 3) := by decide +kernel
theorem dX5_loose_55 : decode cX5_loose 55 = .ok (.invokevirtual 182, 3) := by decide +kernel
theorem dX5_loose_58 : decode cX5_loose 58 = .ok (.bipush 10, 2) := by decide +kernel
theorem dX5_loose_60 : decode cX5_loose 60 = .ok (.irem, 1) := by decide +kernel
theorem dX5_loose_61 : decode cX5_loose 61 = .ok (.putfield 121, 3) := by decide +kernel
theorem dX5_loose_64 : decode cX5_loose 64 = .ok (.aload_n 0, 1) := by decide +kernel
theorem dX5_loose_65 : decode cX5_loose 65 = .ok (.getfield 10, 3) := by decide +kernel
theorem dX5_loose_68 : decode cX5_loose 68 = .ok (.getfield 64, 3) := by decide +kernel
theorem dX5_loose_71 : decode cX5_loose 71 = .ok (.ifCond .le 41, 3) := by decide +kernel
theorem dX5_loose_74 : decode cX5_loose 74 = .ok (.aload_n 0, 1) := by decide +kernel
theorem dX5_loose_75 : decode cX5_loose 75 = .ok (.getfield 10, 3) := by decide +kernel
theorem dX5_loose_78 : decode cX5_loose 78 = .ok (.invokevirtual 182, 3) := by decide +kernel
theorem dX5_loose_81 : decode cX5_loose 81 = .ok (.aload_n 0, 1) := by decide +kernel
theorem dX5_loose_82 : decode cX5_loose 82 = .ok (.getfield 10, 3) := by decide +kernel
theorem dX5_loose_85 : decode cX5_loose 85 = .ok (.getfield 64, 3) := by decide +kernel
theorem dX5_loose_88 : decode cX5_loose 88 = .ok (.irem, 1) := by decide +kernel
theorem dX5_loose_89 : decode cX5_loose 89 = .ok (.istore 4, 2) := by decide +kernel
theorem dX5_loose_91 : decode cX5_loose 91 = .ok (.iload_n 2, 1) := by decide +kernel
theorem dX5_loose_92 : decode cX5_loose 92 = .ok (.aload_n 0, 1) := by decide +kernel
theorem dX5_loose_93 : decode cX5_loose 93 = .ok (.iload 4, 2) := by decide +kernel
theorem dX5_loose_95 : decode cX5_loose 95 = .ok (.iconst 1, 1) := by decide +kernel
theorem dX5_loose_96 : decode cX5_loose 96 = .ok (.aload_n 0, 1) := by decide +kernel
theorem dX5_loose_97 : decode cX5_loose 97 = .ok (.getfield 10, 3) := by decide +kernel
theorem dX5_loose_100 : decode cX5_loose 100 = .ok (.invokevirtual 182, 3) := by decide +kernel
theorem dX5_loose_103 : decode cX5_loose 103 = .ok (.bipush 20, 2) := by decide +kernel
theorem dX5_loose_105 : decode cX5_loose 105 = .ok (.irem, 1) := by decide +kernel
theorem dX5_loose_106 : decode cX5_loose 106 = .ok (.iadd, 1) := by decide +kernel
theorem dX5_loose_107 : decode cX5_loose 107 = .ok (.invokevirtual 173, 3) := by decide +kernel
theorem dX5_loose_110 : decode cX5_loose 110 = .ok (.ior, 1) := by decide +kernel
theorem dX5_loose_111 : decode cX5_loose 111 = .ok (.istore_n 2, 1) := by decide +kernel
theorem dX5_loose_112 : decode cX5_loose 112 = .ok (.aload_n 0, 1) := by decide +kernel
theorem dX5_loose_113 : decode cX5_loose 113 = .ok (.getfield 10, 3) := by decide +kernel
theorem dX5_loose_116 : decode cX5_loose 116 = .ok (.dup, 1) := by decide +kernel
theorem dX5_loose_117 : decode cX5_loose 117 = .ok (.getfield 176, 3) := by decide +kernel
theorem dX5_loose_120 : decode cX5_loose 120 = .ok (.iconst 1, 1) := by decide +kernel
theorem dX5_loose_121 : decode cX5_loose 121 = .ok (.iadd, 1) := by decide +kernel
theorem dX5_loose_122 : decode cX5_loose 122 = .ok (.putfield 176, 3) := by decide +kernel
theorem dX5_loose_125 : decode cX5_loose 125 = .ok (.iinc 3 1, 3) := by decide +kernel
theorem dX5_loose_128 : decode cX5_loose 128 = .ok (.goto (-86), 3) := by decide +kernel
theorem dX5_loose_131 : decode cX5_loose 131 = .ok (.iload_n 2, 1) := by decide +kernel
theorem dX5_loose_132 : decode cX5_loose 132 = .ok (.ireturn, 1) := by decide +kernel
theorem dX5_seed_0 : decode cX5_seed 0 = .ok (.aload_n 0, 1) := by decide +kernel
theorem dX5_seed_1 : decode cX5_seed 1 = .ok (.getfield 10, 3) := by decide +kernel
theorem dX5_seed_4 : decode cX5_seed 4 = .ok (.getfield 186, 3) := by decide +kernel
theorem dX5_seed_7 : decode cX5_seed 7 = .ok (.istore_n 2, 1) := by decide +kernel
theorem dX5_seed_8 : decode cX5_seed 8 = .ok (.aload_n 0, 1) := by decide +kernel
theorem dX5_seed_9 : decode cX5_seed 9 = .ok (.getfield 10, 3) := by decide +kernel
theorem dX5_seed_12 : decode cX5_seed 12 = .ok (.iload_n 1, 1) := by decide +kernel
theorem dX5_seed_13 : decode cX5_seed 13 = .ok (.putfield 186, 3) := by decide +kernel
theorem dX5_seed_16 : decode cX5_seed 16 = .ok (.iload_n 2, 1) := by decide +kernel
theorem dX5_seed_17 : decode cX5_seed 17 = .ok (.ireturn, 1) := by decide +kernel
theorem dX5_hush_0 : decode cX5_hush 0 = .ok (.aload_n 0, 1) := by decide +kernel
theorem dX5_hush_1 : decode cX5_hush 1 = .ok (.iload_n 1, 1) := by decide +kernel
theorem dX5_hush_2 : decode cX5_hush 2 = .ok (.iload_n 2, 1) := by decide +kernel
theorem dX5_hush_3 : decode cX5_hush 3 = .ok (.invokevirtual 87, 3) := by decide +kernel
theorem dX5_hush_6 : decode cX5_hush 6 = .ok (.ifCond .eq 19, 3) := by decide +kernel
theorem dX5_hush_9 : decode cX5_hush 9 = .ok (.aload_n 0, 1) := by decide +kernel
theorem dX5_hush_10 : decode cX5_hush 10 = .ok (.iload_n 3, 1) := by decide +kernel
theorem dX5_hush_11 : decode cX5_hush 11 = .ok (.invokevirtual 80, 3) := by decide +kernel
theorem dX5_hush_14 : decode cX5_hush 14 = .ok (.ifCond .eq 11, 3) := by decide +kernel
theorem dX5_hush_17 : decode cX5_hush 17 = .ok (.iload 4, 2) := by decide +kernel
theorem dX5_hush_19 : decode cX5_hush 19 = .ok (.invokestatic 118, 3) := by decide +kernel
theorem dX5_hush_22 : decode cX5_hush 22 = .ok (.ifCond .ne 9, 3) := by decide +kernel
theorem dX5_hush_25 : decode cX5_hush 25 = .ok (.aload_n 0, 1) := by decide +kernel
theorem dX5_hush_26 : decode cX5_hush 26 = .ok (.iconst 1, 1) := by decide +kernel
theorem dX5_hush_27 : decode cX5_hush 27 = .ok (.invokevirtual 60, 3) := by decide +kernel
theorem dX5_hush_30 : decode cX5_hush 30 = .ok (.ireturn, 1) := by decide +kernel
theorem dX5_hush_31 : decode cX5_hush 31 = .ok (.iload_n 1, 1) := by decide +kernel
theorem dX5_hush_32 : decode cX5_hush 32 = .ok (.iload_n 3, 1) := by decide +kernel
theorem dX5_hush_33 : decode cX5_hush 33 = .ok (.if_icmp .ne 9, 3) := by decide +kernel
theorem dX5_hush_36 : decode cX5_hush 36 = .ok (.aload_n 0, 1) := by decide +kernel
theorem dX5_hush_37 : decode cX5_hush 37 = .ok (.iconst 3, 1) := by decide +kernel
theorem dX5_hush_38 : decode cX5_hush 38 = .ok (.invokevirtual 60, 3) := by decide +kernel
theorem dX5_hush_41 : decode cX5_hush 41 = .ok (.ireturn, 1) := by decide +kernel
theorem dX5_hush_42 : decode cX5_hush 42 = .ok (.aload_n 0, 1) := by decide +kernel
theorem dX5_hush_43 : decode cX5_hush 43 = .ok (.iload_n 1, 1) := by decide +kernel
theorem dX5_hush_44 : decode cX5_hush 44 = .ok (.iload_n 2, 1) := by decide +kernel
theorem dX5_hush_45 : decode cX5_hush 45 = .ok (.iload_n 3, 1) := by decide +kernel
theorem dX5_hush_46 : decode cX5_hush 46 = .ok (.invokevirtual 189, 3) := by decide +kernel
theorem dX5_hush_49 : decode cX5_hush 49 = .ok (.istore 5, 2) := by decide +kernel
theorem dX5_hush_51 : decode cX5_hush 51 = .ok (.iload 4, 2) := by decide +kernel
theorem dX5_hush_53 : decode cX5_hush 53 = .ok (.ifCond .ne 11, 3) := by decide +kernel
theorem dX5_hush_56 : decode cX5_hush 56 = .ok (.iload 5, 2) := by decide +kernel
theorem dX5_hush_58 : decode cX5_hush 58 = .ok (.invokestatic 193, 3) := by decide +kernel
theorem dX5_hush_61 : decode cX5_hush 61 = .ok (.goto 5, 3) := by decide +kernel
theorem dX5_hush_64 : decode cX5_hush 64 = .ok (.iload 5, 2) := by decide +kernel
theorem dX5_hush_66 : decode cX5_hush 66 = .ok (.ireturn, 1) := by decide +kernel
theorem dX5_reach_0 : decode cX5_reach 0 = .ok (.aload_n 0, 1) := by decide +kernel
theorem dX5_reach_1 : decode cX5_reach 1 = .ok (.iload_n 1, 1) := by decide +kernel
theorem dX5_reach_2 : decode cX5_reach 2 = .ok (.iload_n 2, 1) := by decide +kernel
theorem dX5_reach_3 : decode cX5_reach 3 = .ok (.invokevirtual 87, 3) := by decide +kernel
theorem dX5_reach_6 : decode cX5_reach 6 = .ok (.ifCond .eq 11, 3) := by decide +kernel
theorem dX5_reach_9 : decode cX5_reach 9 = .ok (.aload_n 0, 1) := by decide +kernel
theorem dX5_reach_10 : decode cX5_reach 10 = .ok (.iload_n 3, 1) := by decide +kernel
theorem dX5_reach_11 : decode cX5_reach 11 = .ok (.invokevirtual 80, 3) := by decide +kernel
theorem dX5_reach_14 : decode cX5_reach 14 = .ok (.ifCond .ne 9, 3) := by decide +kernel
theorem dX5_reach_17 : decode cX5_reach 17 = .ok (.aload_n 0, 1) := by decide +kernel
theorem dX5_reach_18 : decode cX5_reach 18 = .ok (.iconst 1, 1) := by decide +kernel
theorem dX5_reach_19 : decode cX5_reach 19 = .ok (.invokevirtual 60, 3) := by decide +kernel
theorem dX5_reach_22 : decode cX5_reach 22 = .ok (.ireturn, 1) := by decide +kernel
theorem dX5_reach_23 : decode cX5_reach 23 = .ok (.iload 4, 2) := by decide +kernel
theorem dX5_reach_25 : decode cX5_reach 25 = .ok (.ifCond .lt 18, 3) := by decide +kernel
theorem dX5_reach_28 : decode cX5_reach 28 = .ok (.iload 4, 2) := by decide +kernel
theorem dX5_reach_30 : decode cX5_reach 30 = .ok (.bipush 99, 2) := by decide +kernel
theorem dX5_reach_32 : decode cX5_reach 32 = .ok (.if_icmp .gt 11, 3) := by decide +kernel
theorem dX5_reach_35 : decode cX5_reach 35 = .ok (.iload 5, 2) := by decide +kernel
theorem dX5_reach_37 : decode cX5_reach 37 = .ok (.invokestatic 118, 3) := by decide +kernel
theorem dX5_reach_40 : decode cX5_reach 40 = .ok (.ifCond .ne 9, 3) := by decide +kernel
theorem dX5_reach_43 : decode cX5_reach 43 = .ok (.aload_n 0, 1) := by decide +kernel
theorem dX5_reach_44 : decode cX5_reach 44 = .ok (.iconst 1, 1) := by decide +kernel
theorem dX5_reach_45 : decode cX5_reach 45 = .ok (.invokevirtual 60, 3) := by decide +kernel
theorem dX5_reach_48 : decode cX5_reach 48 = .ok (.ireturn, 1) := by decide +kernel
theorem dX5_reach_49 : decode cX5_reach 49 = .ok (.aload_n 0, 1) := by decide +kernel
theorem dX5_reach_50 : decode cX5_reach 50 = .ok (.iload_n 1, 1) := by decide +kernel
theorem dX5_reach_51 : decode cX5_reach 51 = .ok (.iload_n 2, 1) := by decide +kernel
theorem dX5_reach_52 : decode cX5_reach 52 = .ok (.iload_n 3, 1) := by decide +kernel
theorem dX5_reach_53 : decode cX5_reach 53 = .ok (.iload 4, 2) := by decide +kernel
theorem dX5_reach_55 : decode cX5_reach 55 = .ok (.invokevirtual 198, 3) := by decide +kernel
theorem dX5_reach_58 : decode cX5_reach 58 = .ok (.istore 6, 2) := by decide +kernel
theorem dX5_reach_60 : decode cX5_reach 60 = .ok (.iload 6, 2) := by decide +kernel
theorem dX5_reach_62 : decode cX5_reach 62 = .ok (.ifCond .ge 9, 3) := by decide +kernel
theorem dX5_reach_65 : decode cX5_reach 65 = .ok (.aload_n 0, 1) := by decide +kernel
theorem dX5_reach_66 : decode cX5_reach 66 = .ok (.iconst 2, 1) := by decide +kernel
theorem dX5_reach_67 : decode cX5_reach 67 = .ok (.invokevirtual 60, 3) := by decide +kernel
theorem dX5_reach_70 : decode cX5_reach 70 = .ok (.ireturn, 1) := by decide +kernel
theorem dX5_reach_71 : decode cX5_reach 71 = .ok (.iload 5, 2) := by decide +kernel
theorem dX5_reach_73 : decode cX5_reach 73 = .ok (.ifCond .ne 11, 3) := by decide +kernel
theorem dX5_reach_76 : decode cX5_reach 76 = .ok (.iload 6, 2) := by decide +kernel
theorem dX5_reach_78 : decode cX5_reach 78 = .ok (.invokestatic 193, 3) := by decide +kernel
theorem dX5_reach_81 : decode cX5_reach 81 = .ok (.goto 5, 3) := by decide +kernel
theorem dX5_reach_84 : decode cX5_reach 84 = .ok (.iload 6, 2) := by decide +kernel
theorem dX5_reach_86 : decode cX5_reach 86 = .ok (.ireturn, 1) := by decide +kernel
theorem dX5_odds_0 : decode cX5_odds 0 = .ok (.aload_n 0, 1) := by decide +kernel
theorem dX5_odds_1 : decode cX5_odds 1 = .ok (.iload_n 1, 1) := by decide +kernel
theorem dX5_odds_2 : decode cX5_odds 2 = .ok (.iload_n 2, 1) := by decide +kernel
theorem dX5_odds_3 : decode cX5_odds 3 = .ok (.invokevirtual 87, 3) := by decide +kernel
theorem dX5_odds_6 : decode cX5_odds 6 = .ok (.ifCond .eq 10, 3) := by decide +kernel
theorem dX5_odds_9 : decode cX5_odds 9 = .ok (.iload_n 3, 1) := by decide +kernel
theorem dX5_odds_10 : decode cX5_odds 10 = .ok (.invokestatic 118, 3) := by decide +kernel
theorem dX5_odds_13 : decode cX5_odds 13 = .ok (.ifCond .ne 9, 3) := by decide +kernel
theorem dX5_odds_16 : decode cX5_odds 16 = .ok (.aload_n 0, 1) := by decide +kernel
theorem dX5_odds_17 : decode cX5_odds 17 = .ok (.iconst 1, 1) := by decide +kernel
theorem dX5_odds_18 : decode cX5_odds 18 = .ok (.invokevirtual 60, 3) := by decide +kernel
theorem dX5_odds_21 : decode cX5_odds 21 = .ok (.ireturn, 1) := by decide +kernel
theorem dX5_odds_22 : decode cX5_odds 22 = .ok (.aload_n 0, 1) := by decide +kernel
theorem dX5_odds_23 : decode cX5_odds 23 = .ok (.getfield 24, 3) := by decide +kernel
theorem dX5_odds_26 : decode cX5_odds 26 = .ok (.invokevirtual 154, 3) := by decide +kernel
theorem dX5_odds_29 : decode cX5_odds 29 = .ok (.iconst 0, 1) := by decide +kernel
theorem dX5_odds_30 : decode cX5_odds 30 = .ok (.istore 4, 2) := by decide +kernel
theorem dX5_odds_32 : decode cX5_odds 32 = .ok (.iconst 0, 1) := by decide +kernel
theorem dX5_odds_33 : decode cX5_odds 33 = .ok (.istore 5, 2) := by decide +kernel
theorem dX5_odds_35 : decode cX5_odds 35 = .ok (.iload 5, 2) := by decide +kernel
theorem dX5_odds_37 : decode cX5_odds 37 = .ok (.aload_n 0, 1) := by decide +kernel
theorem dX5_odds_38 : decode cX5_odds 38 = .ok (.getfield 10, 3) := by decide +kernel
theorem dX5_odds_41 : decode cX5_odds 41 = .ok (.getfield 64, 3) := by decide +kernel
theorem dX5_odds_44 : decode cX5_odds 44 = .ok (.if_icmp .ge 40, 3) := by decide +kernel
theorem dX5_odds_47 : decode cX5_odds 47 = .ok (.aload_n 0, 1) := by decide +kernel
theorem dX5_odds_48 : decode cX5_odds 48 = .ok (.getfield 24, 3) := by decide +kernel
theorem dX5_odds_51 : decode cX5_odds 51 = .ok (.iload 5, 2) := by decide +kernel
theorem dX5_odds_53 : decode cX5_odds 53 = .ok (.iload_n 2, 1) := by decide +kernel
theorem dX5_odds_54 : decode cX5_odds 54 = .ok (.aload_n 0, 1) := by decide +kernel
theorem dX5_odds_55 : decode cX5_odds 55 = .ok (.getfield 10, 3) := by decide +kernel
theorem dX5_odds_58 : decode cX5_odds 58 = .ok (.getfield 109, 3) := by decide +kernel
theorem dX5_odds_61 : decode cX5_odds 61 = .ok (.invokevirtual 157, 3) := by decide +kernel
theorem dX5_odds_64 : decode cX5_odds 64 = .ok (.aload_n 0, 1) := by decide +kernel
theorem dX5_odds_65 : decode cX5_odds 65 = .ok (.getfield 24, 3) := by decide +kernel
theorem dX5_odds_68 : decode cX5_odds 68 = .ok (.iload_n 1, 1) := by decide +kernel
theorem dX5_odds_69 : decode cX5_odds 69 = .ok (.invokevirtual 164, 3) := by decide +kernel
theorem dX5_odds_72 : decode cX5_odds 72 = .ok (.ifCond .eq 6, 3) := by decide +kernel
theorem dX5_odds_75 : decode cX5_odds 75 = .ok (.iinc 4 1, 3) := by decide +kernel
theorem dX5_odds_78 : decode cX5_odds 78 = .ok (.iinc 5 1, 3) := by decide +kernel
theorem dX5_odds_81 : decode cX5_odds 81 = .ok (.goto (-46), 3) := by decide +kernel
theorem dX5_odds_84 : decode cX5_odds 84 = .ok (.iload 4, 2) := by decide +kernel
theorem dX5_odds_86 : decode cX5_odds 86 = .ok (.aload_n 0, 1) := by decide +kernel
theorem dX5_odds_87 : decode cX5_odds 87 = .ok (.getfield 10, 3) := by decide +kernel
theorem dX5_odds_90 : decode cX5_odds 90 = .ok (.getfield 64, 3) := by decide +kernel
theorem dX5_odds_93 : decode cX5_odds 93 = .ok (.invokestatic 201, 3) := by decide +kernel
theorem dX5_odds_96 : decode cX5_odds 96 = .ok (.istore 5, 2) := by decide +kernel
theorem dX5_odds_98 : decode cX5_odds 98 = .ok (.iload_n 3, 1) := by decide +kernel
theorem dX5_odds_99 : decode cX5_odds 99 = .ok (.ifCond .ne 8, 3) := by decide +kernel
theorem dX5_odds_102 : decode cX5_odds 102 = .ok (.iload 4, 2) := by decide +kernel
theorem dX5_odds_104 : decode cX5_odds 104 = .ok (.goto 10, 3) := by decide +kernel
theorem dX5_odds_107 : decode cX5_odds 107 = .ok (.aload_n 0, 1) := by decide +kernel
theorem dX5_odds_108 : decode cX5_odds 108 = .ok (.getfield 10, 3) := by decide +kernel
theorem dX5_odds_111 : decode cX5_odds 111 = .ok (.getfield 64, 3) := by decide +kernel
theorem dX5_odds_114 : decode cX5_odds 114 = .ok (.iload 5, 2) := by decide +kernel
theorem dX5_odds_116 : decode cX5_odds 116 = .ok (.idiv, 1) := by decide +kernel
theorem dX5_odds_117 : decode cX5_odds 117 = .ok (.ireturn, 1) := by decide +kernel
theorem dX5_fits_0 : decode cX5_fits 0 = .ok (.iload_n 1, 1) := by decide +kernel
theorem dX5_fits_1 : decode cX5_fits 1 = .ok (.invokestatic 204, 3) := by decide +kernel
theorem dX5_fits_4 : decode cX5_fits 4 = .ok (.ifCond .eq 10, 3) := by decide +kernel
theorem dX5_fits_7 : decode cX5_fits 7 = .ok (.iload_n 2, 1) := by decide +kernel
theorem dX5_fits_8 : decode cX5_fits 8 = .ok (.invokestatic 118, 3) := by decide +kernel
theorem dX5_fits_11 : decode cX5_fits 11 = .ok (.ifCond .ne 9, 3) := by decide +kernel
theorem dX5_fits_14 : decode cX5_fits 14 = .ok (.aload_n 0, 1) := by decide +kernel
theorem dX5_fits_15 : decode cX5_fits 15 = .ok (.iconst 1, 1) := by decide +kernel
theorem dX5_fits_16 : decode cX5_fits 16 = .ok (.invokevirtual 60, 3) := by decide +kernel
theorem dX5_fits_19 : decode cX5_fits 19 = .ok (.ireturn, 1) := by decide +kernel
theorem dX5_fits_20 : decode cX5_fits 20 = .ok (.aload_n 0, 1) := by decide +kernel
theorem dX5_fits_21 : decode cX5_fits 21 = .ok (.getfield 44, 3) := by decide +kernel
theorem dX5_fits_24 : decode cX5_fits 24 = .ok (.iload_n 1, 1) := by decide +kernel
theorem dX5_fits_25 : decode cX5_fits 25 = .ok (.aaload, 1) := by decide +kernel
theorem dX5_fits_26 : decode cX5_fits 26 = .ok (.invokevirtual 207, 3) := by decide +kernel
theorem dX5_fits_29 : decode cX5_fits 29 = .ok (.ifCond .eq 9, 3) := by decide +kernel
theorem dX5_fits_32 : decode cX5_fits 32 = .ok (.aload_n 0, 1) := by decide +kernel
theorem dX5_fits_33 : decode cX5_fits 33 = .ok (.iconst 2, 1) := by decide +kernel
theorem dX5_fits_34 : decode cX5_fits 34 = .ok (.invokevirtual 60, 3) := by decide +kernel
theorem dX5_fits_37 : decode cX5_fits 37 = .ok (.ireturn, 1) := by decide +kernel
theorem dX5_fits_38 : decode cX5_fits 38 = .ok (.aload_n 0, 1) := by decide +kernel
theorem dX5_fits_39 : decode cX5_fits 39 = .ok (.getfield 24, 3) := by decide +kernel
theorem dX5_fits_42 : decode cX5_fits 42 = .ok (.invokevirtual 154, 3) := by decide +kernel
theorem dX5_fits_45 : decode cX5_fits 45 = .ok (.iconst 0, 1) := by decide +kernel
theorem dX5_fits_46 : decode cX5_fits 46 = .ok (.istore_n 3, 1) := by decide +kernel
theorem dX5_fits_47 : decode cX5_fits 47 = .ok (.iconst (-1), 1) := by decide +kernel
theorem dX5_fits_48 : decode cX5_fits 48 = .ok (.istore 4, 2) := by decide +kernel
theorem dX5_fits_50 : decode cX5_fits 50 = .ok (.iconst 0, 1) := by decide +kernel
theorem dX5_fits_51 : decode cX5_fits 51 = .ok (.istore 5, 2) := by decide +kernel
theorem dX5_fits_53 : decode cX5_fits 53 = .ok (.iload 5, 2) := by decide +kernel
theorem dX5_fits_55 : decode cX5_fits 55 = .ok (.aload_n 0, 1) := by decide +kernel
theorem dX5_fits_56 : decode cX5_fits 56 = .ok (.getfield 10, 3) := by decide +kernel
theorem dX5_fits_59 : decode cX5_fits 59 = .ok (.getfield 64, 3) := by decide +kernel
theorem dX5_fits_62 : decode cX5_fits 62 = .ok (.if_icmp .ge 77, 3) := by decide +kernel
theorem dX5_fits_65 : decode cX5_fits 65 = .ok (.iconst 1, 1) := by decide +kernel
theorem dX5_fits_66 : decode cX5_fits 66 = .ok (.istore 6, 2) := by decide +kernel
theorem dX5_fits_68 : decode cX5_fits 68 = .ok (.iload 6, 2) := by decide +kernel
theorem dX5_fits_70 : decode cX5_fits 70 = .ok (.bipush 20, 2) := by decide +kernel
theorem dX5_fits_72 : decode cX5_fits 72 = .ok (.if_icmp .gt 61, 3) := by decide +kernel
theorem dX5_fits_75 : decode cX5_fits 75 = .ok (.aload_n 0, 1) := by decide +kernel
theorem dX5_fits_76 : decode cX5_fits 76 = .ok (.getfield 24, 3) := by decide +kernel
theorem dX5_fits_79 : decode cX5_fits 79 = .ok (.iload 5, 2) := by decide +kernel
theorem dX5_fits_81 : decode cX5_fits 81 = .ok (.iload 6, 2) := by decide +kernel
theorem dX5_fits_83 : decode cX5_fits 83 = .ok (.aload_n 0, 1) := by decide +kernel
theorem dX5_fits_84 : decode cX5_fits 84 = .ok (.getfield 10, 3) := by decide +kernel
theorem dX5_fits_87 : decode cX5_fits 87 = .ok (.getfield 109, 3) := by decide +kernel
theorem dX5_fits_90 : decode cX5_fits 90 = .ok (.invokevirtual 157, 3) := by decide +kernel
theorem dX5_fits_93 : decode cX5_fits 93 = .ok (.aload_n 0, 1) := by decide +kernel
theorem dX5_fits_94 : decode cX5_fits 94 = .ok (.aload_n 0, 1) := by decide +kernel
theorem dX5_fits_95 : decode cX5_fits 95 = .ok (.getfield 44, 3) := by decide +kernel
theorem dX5_fits_98 : decode cX5_fits 98 = .ok (.iload_n 1, 1) := by decide +kernel
theorem dX5_fits_99 : decode cX5_fits 99 = .ok (.aaload, 1) := by decide +kernel
theorem dX5_fits_100 : decode cX5_fits 100 = .ok (.invokevirtual 211, 3) := by decide +kernel
theorem dX5_fits_103 : decode cX5_fits 103 = .ok (.ifCond .ne 6, 3) := by decide +kernel
theorem dX5_fits_106 : decode cX5_fits 106 = .ok (.goto 21, 3) := by decide +kernel
theorem dX5_fits_109 : decode cX5_fits 109 = .ok (.iinc 3 1, 3) := by decide +kernel
theorem dX5_fits_112 : decode cX5_fits 112 = .ok (.iload 4, 2) := by decide +kernel
theorem dX5_fits_114 : decode cX5_fits 114 = .ok (.ifCond .ge 13, 3) := by decide +kernel
theorem dX5_fits_117 : decode cX5_fits 117 = .ok (.bipush 100, 2) := by decide +kernel
theorem dX5_fits_119 : decode cX5_fits 119 = .ok (.iload 5, 2) := by decide +kernel
theorem dX5_fits_121 : decode cX5_fits 121 = .ok (.imul, 1) := by decide +kernel
theorem dX5_fits_122 : decode cX5_fits 122 = .ok (.iload 6, 2) := by decide +kernel
theorem dX5_fits_124 : decode cX5_fits 124 = .ok (.iadd, 1) := by decide +kernel
theorem dX5_fits_125 : decode cX5_fits 125 = .ok (.istore 4, 2) := by decide +kernel
theorem dX5_fits_127 : decode cX5_fits 127 = .ok (.iinc 6 1, 3) := by decide +kernel
theorem dX5_fits_130 : decode cX5_fits 130 = .ok (.goto (-62), 3) := by decide +kernel
theorem dX5_fits_133 : decode cX5_fits 133 = .ok (.iinc 5 1, 3) := by decide +kernel
theorem dX5_fits_136 : decode cX5_fits 136 = .ok (.goto (-83), 3) := by decide +kernel
theorem dX5_fits_139 : decode cX5_fits 139 = .ok (.iload_n 2, 1) := by decide +kernel
theorem dX5_fits_140 : decode cX5_fits 140 = .ok (.ifCond .ne 5, 3) := by decide +kernel
theorem dX5_fits_143 : decode cX5_fits 143 = .ok (.iload_n 3, 1) := by decide +kernel
theorem dX5_fits_144 : decode cX5_fits 144 = .ok (.ireturn, 1) := by decide +kernel
theorem dX5_fits_145 : decode cX5_fits 145 = .ok (.iload 4, 2) := by decide +kernel
theorem dX5_fits_147 : decode cX5_fits 147 = .ok (.ifCond .ge 11, 3) := by decide +kernel
theorem dX5_fits_150 : decode cX5_fits 150 = .ok (.aload_n 0, 1) := by decide +kernel
theorem dX5_fits_151 : decode cX5_fits 151 = .ok (.iconst 2, 1) := by decide +kernel
theorem dX5_fits_152 : decode cX5_fits 152 = .ok (.invokevirtual 60, 3) := by decide +kernel
theorem dX5_fits_155 : decode cX5_fits 155 = .ok (.goto 5, 3) := by decide +kernel
theorem dX5_fits_158 : decode cX5_fits 158 = .ok (.iload 4, 2) := by decide +kernel
theorem dX5_fits_160 : decode cX5_fits 160 = .ok (.ireturn, 1) := by decide +kernel
theorem dX5_voice_0 : decode cX5_voice 0 = .ok (.aload_n 0, 1) := by decide +kernel
theorem dX5_voice_1 : decode cX5_voice 1 = .ok (.iload_n 1, 1) := by decide +kernel
theorem dX5_voice_2 : decode cX5_voice 2 = .ok (.invokevirtual 80, 3) := by decide +kernel
theorem dX5_voice_5 : decode cX5_voice 5 = .ok (.ifCond .eq 12, 3) := by decide +kernel
theorem dX5_voice_8 : decode cX5_voice 8 = .ok (.iload_n 2, 1) := by decide +kernel
theorem dX5_voice_9 : decode cX5_voice 9 = .ok (.ifCond .lt 8, 3) := by decide +kernel
theorem dX5_voice_12 : decode cX5_voice 12 = .ok (.iload_n 2, 1) := by decide +kernel
theorem dX5_voice_13 : decode cX5_voice 13 = .ok (.iconst 3, 1) := by decide +kernel
theorem dX5_voice_14 : decode cX5_voice 14 = .ok (.if_icmp .le 9, 3) := by decide +kernel
theorem dX5_voice_17 : decode cX5_voice 17 = .ok (.aload_n 0, 1) := by decide +kernel
theorem dX5_voice_18 : decode cX5_voice 18 = .ok (.iconst 1, 1) := by decide +kernel
theorem dX5_voice_19 : decode cX5_voice 19 = .ok (.invokevirtual 60, 3) := by decide +kernel
theorem dX5_voice_22 : decode cX5_voice 22 = .ok (.ireturn, 1) := by decide +kernel
theorem dX5_voice_23 : decode cX5_voice 23 = .ok (.aload_n 0, 1) := by decide +kernel
theorem dX5_voice_24 : decode cX5_voice 24 = .ok (.getfield 38, 3) := by decide +kernel
theorem dX5_voice_27 : decode cX5_voice 27 = .ok (.aload_n 0, 1) := by decide +kernel
theorem dX5_voice_28 : decode cX5_voice 28 = .ok (.getfield 10, 3) := by decide +kernel
theorem dX5_voice_31 : decode cX5_voice 31 = .ok (.iload_n 1, 1) := by decide +kernel
theorem dX5_voice_32 : decode cX5_voice 32 = .ok (.iload_n 2, 1) := by decide +kernel
theorem dX5_voice_33 : decode cX5_voice 33 = .ok (.iload_n 3, 1) := by decide +kernel
theorem dX5_voice_34 : decode cX5_voice 34 = .ok (.invokevirtual 215, 3) := by decide +kernel
theorem dX5_voice_37 : decode cX5_voice 37 = .ok (.istore 4, 2) := by decide +kernel
theorem dX5_voice_39 : decode cX5_voice 39 = .ok (.aload_n 0, 1) := by decide +kernel
theorem dX5_voice_40 : decode cX5_voice 40 = .ok (.getfield 38, 3) := by decide +kernel
theorem dX5_voice_43 : decode cX5_voice 43 = .ok (.getfield 219, 3) := by decide +kernel
theorem dX5_voice_46 : decode cX5_voice 46 = .ok (.ifCond .eq 12, 3) := by decide +kernel
theorem dX5_voice_49 : decode cX5_voice 49 = .ok (.aload_n 0, 1) := by decide +kernel
theorem dX5_voice_50 : decode cX5_voice 50 = .ok (.bipush 6, 2) := by decide +kernel
theorem dX5_voice_52 : decode cX5_voice 52 = .ok (.invokevirtual 60, 3) := by decide +kernel
theorem dX5_voice_55 : decode cX5_voice 55 = .ok (.goto 5, 3) := by decide +kernel
theorem dX5_voice_58 : decode cX5_voice 58 = .ok (.iload 4, 2) := by decide +kernel
theorem dX5_voice_60 : decode cX5_voice 60 = .ok (.ireturn, 1) := by decide +kernel
theorem dX5_body_0 : decode cX5_body 0 = .ok (.iload_n 1, 1) := by decide +kernel
theorem dX5_body_1 : decode cX5_body 1 = .ok (.ifCond .lt 14, 3) := by decide +kernel
theorem dX5_body_4 : decode cX5_body 4 = .ok (.iload_n 1, 1) := by decide +kernel
theorem dX5_body_5 : decode cX5_body 5 = .ok (.aload_n 0, 1) := by decide +kernel
theorem dX5_body_6 : decode cX5_body 6 = .ok (.getfield 38, 3) := by decide +kernel
theorem dX5_body_9 : decode cX5_body 9 = .ok (.getfield 222, 3) := by decide +kernel
theorem dX5_body_12 : decode cX5_body 12 = .ok (.if_icmp .lt 9, 3) := by decide +kernel
theorem dX5_body_15 : decode cX5_body 15 = .ok (.aload_n 0, 1) := by decide +kernel
theorem dX5_body_16 : decode cX5_body 16 = .ok (.iconst 2, 1) := by decide +kernel
theorem dX5_body_17 : decode cX5_body 17 = .ok (.invokevirtual 60, 3) := by decide +kernel
theorem dX5_body_20 : decode cX5_body 20 = .ok (.ireturn, 1) := by decide +kernel
theorem dX5_body_21 : decode cX5_body 21 = .ok (.aload_n 0, 1) := by decide +kernel
theorem dX5_body_22 : decode cX5_body 22 = .ok (.getfield 38, 3) := by decide +kernel
theorem dX5_body_25 : decode cX5_body 25 = .ok (.getfield 225, 3) := by decide +kernel
theorem dX5_body_28 : decode cX5_body 28 = .ok (.iload_n 1, 1) := by decide +kernel
theorem dX5_body_29 : decode cX5_body 29 = .ok (.iaload, 1) := by decide +kernel
theorem dX5_body_30 : decode cX5_body 30 = .ok (.ireturn, 1) := by decide +kernel
theorem dX5_sheet_0 : decode cX5_sheet 0 = .ok (.iload_n 1, 1) := by decide +kernel
theorem dX5_sheet_1 : decode cX5_sheet 1 = .ok (.invokestatic 204, 3) := by decide +kernel
theorem dX5_sheet_4 : decode cX5_sheet 4 = .ok (.ifCond .ne 9, 3) := by decide +kernel
theorem dX5_sheet_7 : decode cX5_sheet 7 = .ok (.aload_n 0, 1) := by decide +kernel
theorem dX5_sheet_8 : decode cX5_sheet 8 = .ok (.iconst 1, 1) := by decide +kernel
theorem dX5_sheet_9 : decode cX5_sheet 9 = .ok (.invokevirtual 60, 3) := by decide +kernel
theorem dX5_sheet_12 : decode cX5_sheet 12 = .ok (.ireturn, 1) := by decide +kernel
theorem dX5_sheet_13 : decode cX5_sheet 13 = .ok (.iload_n 2, 1) := by decide +kernel
theorem dX5_sheet_14 : decode cX5_sheet 14 = .ok (.ifCond .eq 27, 3) := by decide +kernel
theorem dX5_sheet_17 : decode cX5_sheet 17 = .ok (.iload_n 2, 1) := by decide +kernel
theorem dX5_sheet_18 : decode cX5_sheet 18 = .ok (.bipush 8, 2) := by decide +kernel
theorem dX5_sheet_20 : decode cX5_sheet 20 = .ok (.if_icmp .eq 21, 3) := by decide +kernel
theorem dX5_sheet_23 : decode cX5_sheet 23 = .ok (.iload_n 2, 1) := by decide +kernel
theorem dX5_sheet_24 : decode cX5_sheet 24 = .ok (.bipush 16, 2) := by decide +kernel
theorem dX5_sheet_26 : decode cX5_sheet 26 = .ok (.if_icmp .eq 15, 3) := by decide +kernel
theorem dX5_sheet_29 : decode cX5_sheet 29 = .ok (.iload_n 2, 1) := by decide +kernel
theorem dX5_sheet_30 : decode cX5_sheet 30 = .ok (.bipush 32, 2) := by decide +kernel
theorem dX5_sheet_32 : decode cX5_sheet 32 = .ok (.if_icmp .eq 9, 3) := by decide +kernel
theorem dX5_sheet_35 : decode cX5_sheet 35 = .ok (.aload_n 0, 1) := by decide +kernel
theorem dX5_sheet_36 : decode cX5_sheet 36 = .ok (.iconst 1, 1) := by decide +kernel
theorem dX5_sheet_37 : decode cX5_sheet 37 = .ok (.invokevirtual 60, 3) := by decide +kernel
theorem dX5_sheet_40 : decode cX5_sheet 40 = .ok (.ireturn, 1) := by decide +kernel
theorem dX5_sheet_41 : decode cX5_sheet 41 = .ok (.iload_n 2, 1) := by decide +kernel
theorem dX5_sheet_42 : decode cX5_sheet 42 = .ok (.ifCond .eq 13, 3) := by decide +kernel
theorem dX5_sheet_45 : decode cX5_sheet 45 = .ok (.iload_n 3, 1) := by decide +kernel
theorem dX5_sheet_46 : decode cX5_sheet 46 = .ok (.ifCond .ge 9, 3) := by decide +kernel
theorem dX5_sheet_49 : decode cX5_sheet 49 = .ok (.aload_n 0, 1) := by decide +kernel
theorem dX5_sheet_50 : decode cX5_sheet 50 = .ok (.iconst 3, 1) := by decide +kernel
theorem dX5_sheet_51 : decode cX5_sheet 51 = .ok (.invokevirtual 60, 3) := by decide +kernel
theorem dX5_sheet_54 : decode cX5_sheet 54 = .ok (.ireturn, 1) := by decide +kernel
theorem dX5_sheet_55 : decode cX5_sheet 55 = .ok (.iload_n 2, 1) := by decide +kernel
theorem dX5_sheet_56 : decode cX5_sheet 56 = .ok (.ifCond .eq 15, 3) := by decide +kernel
theorem dX5_sheet_59 : decode cX5_sheet 59 = .ok (.iload_n 3, 1) := by decide +kernel
theorem dX5_sheet_60 : decode cX5_sheet 60 = .ok (.bipush 24, 2) := by decide +kernel
theorem dX5_sheet_62 : decode cX5_sheet 62 = .ok (.if_icmp .le 9, 3) := by decide +kernel
theorem dX5_sheet_65 : decode cX5_sheet 65 = .ok (.aload_n 0, 1) := by decide +kernel
theorem dX5_sheet_66 : decode cX5_sheet 66 = .ok (.iconst 1, 1) := by decide +kernel
theorem dX5_sheet_67 : decode cX5_sheet 67 = .ok (.invokevirtual 60, 3) := by decide +kernel
theorem dX5_sheet_70 : decode cX5_sheet 70 = .ok (.ireturn, 1) := by decide +kernel
theorem dX5_sheet_71 : decode cX5_sheet 71 = .ok (.aload_n 0, 1) := by decide +kernel
theorem dX5_sheet_72 : decode cX5_sheet 72 = .ok (.getfield 44, 3) := by decide +kernel
theorem dX5_sheet_75 : decode cX5_sheet 75 = .ok (.iload_n 1, 1) := by decide +kernel
theorem dX5_sheet_76 : decode cX5_sheet 76 = .ok (.aaload, 1) := by decide +kernel
theorem dX5_sheet_77 : decode cX5_sheet 77 = .ok (.iload_n 2, 1) := by decide +kernel
theorem dX5_sheet_78 : decode cX5_sheet 78 = .ok (.iload_n 2, 1) := by decide +kernel
theorem dX5_sheet_79 : decode cX5_sheet 79 = .ok (.ifCond .ne 7, 3) := by decide +kernel
theorem dX5_sheet_82 : decode cX5_sheet 82 = .ok (.iconst 0, 1) := by decide +kernel
theorem dX5_sheet_83 : decode cX5_sheet 83 = .ok (.goto 4, 3) := by decide +kernel
theorem dX5_sheet_86 : decode cX5_sheet 86 = .ok (.iload_n 3, 1) := by decide +kernel
theorem dX5_sheet_87 : decode cX5_sheet 87 = .ok (.invokevirtual 228, 3) := by decide +kernel
theorem dX5_sheet_90 : decode cX5_sheet 90 = .ok (.iconst 1, 1) := by decide +kernel
theorem dX5_sheet_91 : decode cX5_sheet 91 = .ok (.ireturn, 1) := by decide +kernel
theorem dX5_put_0 : decode cX5_put 0 = .ok (.iload_n 1, 1) := by decide +kernel
theorem dX5_put_1 : decode cX5_put 1 = .ok (.invokestatic 204, 3) := by decide +kernel
theorem dX5_put_4 : decode cX5_put 4 = .ok (.ifCond .ne 9, 3) := by decide +kernel
theorem dX5_put_7 : decode cX5_put 7 = .ok (.aload_n 0, 1) := by decide +kernel
theorem dX5_put_8 : decode cX5_put 8 = .ok (.iconst 1, 1) := by decide +kernel
theorem dX5_put_9 : decode cX5_put 9 = .ok (.invokevirtual 60, 3) := by decide +kernel
theorem dX5_put_12 : decode cX5_put 12 = .ok (.ireturn, 1) := by decide +kernel
theorem dX5_put_13 : decode cX5_put 13 = .ok (.aload_n 0, 1) := by decide +kernel
theorem dX5_put_14 : decode cX5_put 14 = .ok (.getfield 44, 3) := by decide +kernel
theorem dX5_put_17 : decode cX5_put 17 = .ok (.iload_n 1, 1) := by decide +kernel
theorem dX5_put_18 : decode cX5_put 18 = .ok (.aaload, 1) := by decide +kernel
theorem dX5_put_19 : decode cX5_put 19 = .ok (.astore 4, 2) := by decide +kernel
theorem dX5_put_21 : decode cX5_put 21 = .ok (.aload 4, 2) := by decide +kernel
theorem dX5_put_23 : decode cX5_put 23 = .ok (.invokevirtual 207, 3) := by decide +kernel
theorem dX5_put_26 : decode cX5_put 26 = .ok (.ifCond .eq 9, 3) := by decide +kernel
theorem dX5_put_29 : decode cX5_put 29 = .ok (.aload_n 0, 1) := by decide +kernel
theorem dX5_put_30 : decode cX5_put 30 = .ok (.iconst 2, 1) := by decide +kernel
theorem dX5_put_31 : decode cX5_put 31 = .ok (.invokevirtual 60, 3) := by decide +kernel
theorem dX5_put_34 : decode cX5_put 34 = .ok (.ireturn, 1) := by decide +kernel
theorem dX5_put_35 : decode cX5_put 35 = .ok (.iload_n 2, 1) := by decide +kernel
theorem dX5_put_36 : decode cX5_put 36 = .ok (.ifCond .lt 12, 3) := by decide +kernel
theorem dX5_put_39 : decode cX5_put 39 = .ok (.iload_n 2, 1) := by decide +kernel
theorem dX5_put_40 : decode cX5_put 40 = .ok (.aload 4, 2) := by decide +kernel
theorem dX5_put_42 : decode cX5_put 42 = .ok (.getfield 232, 3) := by decide +kernel
theorem dX5_put_45 : decode cX5_put 45 = .ok (.if_icmp .lt 9, 3) := by decide +kernel
theorem dX5_put_48 : decode cX5_put 48 = .ok (.aload_n 0, 1) := by decide +kernel
theorem dX5_put_49 : decode cX5_put 49 = .ok (.iconst 1, 1) := by decide +kernel
theorem dX5_put_50 : decode cX5_put 50 = .ok (.invokevirtual 60, 3) := by decide +kernel
theorem dX5_put_53 : decode cX5_put 53 = .ok (.ireturn, 1) := by decide +kernel
theorem dX5_put_54 : decode cX5_put 54 = .ok (.aload 4, 2) := by decide +kernel
theorem dX5_put_56 : decode cX5_put 56 = .ok (.getfield 235, 3) := by decide +kernel
theorem dX5_put_59 : decode cX5_put 59 = .ok (.iload_n 2, 1) := by decide +kernel
theorem dX5_put_60 : decode cX5_put 60 = .ok (.aload 4, 2) := by decide +kernel
theorem dX5_put_62 : decode cX5_put 62 = .ok (.iload_n 3, 1) := by decide +kernel
theorem dX5_put_63 : decode cX5_put 63 = .ok (.invokevirtual 238, 3) := by decide +kernel
theorem dX5_put_66 : decode cX5_put 66 = .ok (.iastore, 1) := by decide +kernel
theorem dX5_put_67 : decode cX5_put 67 = .ok (.iconst 1, 1) := by decide +kernel
theorem dX5_put_68 : decode cX5_put 68 = .ok (.ireturn, 1) := by decide +kernel
theorem dX5_move_0 : decode cX5_move 0 = .ok (.iload_n 1, 1) := by decide +kernel
theorem dX5_move_1 : decode cX5_move 1 = .ok (.invokestatic 204, 3) := by decide +kernel
theorem dX5_move_4 : decode cX5_move 4 = .ok (.ifCond .eq 10, 3) := by decide +kernel
theorem dX5_move_7 : decode cX5_move 7 = .ok (.iload_n 3, 1) := by decide +kernel
theorem dX5_move_8 : decode cX5_move 8 = .ok (.invokestatic 204, 3) := by decide +kernel
theorem dX5_move_11 : decode cX5_move 11 = .ok (.ifCond .ne 9, 3) := by decide +kernel
theorem dX5_move_14 : decode cX5_move 14 = .ok (.aload_n 0, 1) := by decide +kernel
theorem dX5_move_15 : decode cX5_move 15 = .ok (.iconst 1, 1) := by decide +kernel
theorem dX5_move_16 : decode cX5_move 16 = .ok (.invokevirtual 60, 3) := by decide +kernel
theorem dX5_move_19 : decode cX5_move 19 = .ok (.ireturn, 1) := by decide +kernel
theorem dX5_move_20 : decode cX5_move 20 = .ok (.aload_n 0, 1) := by decide +kernel
theorem dX5_move_21 : decode cX5_move 21 = .ok (.getfield 44, 3) := by decide +kernel
theorem dX5_move_24 : decode cX5_move 24 = .ok (.iload_n 1, 1) := by decide +kernel
theorem dX5_move_25 : decode cX5_move 25 = .ok (.aaload, 1) := by decide +kernel
theorem dX5_move_26 : decode cX5_move 26 = .ok (.astore 6, 2) := by decide +kernel
theorem dX5_move_28 : decode cX5_move 28 = .ok (.aload_n 0, 1) := by decide +kernel
theorem dX5_move_29 : decode cX5_move 29 = .ok (.getfield 44, 3) := by decide +kernel
theorem dX5_move_32 : decode cX5_move 32 = .ok (.iload_n 3, 1) := by decide +kernel
theorem dX5_move_33 : decode cX5_move 33 = .ok (.aaload, 1) := by decide +kernel
theorem dX5_move_34 : decode cX5_move 34 = .ok (.astore 7, 2) := by decide +kernel
theorem dX5_move_36 : decode cX5_move 36 = .ok (.aload 6, 2) := by decide +kernel
theorem dX5_move_38 : decode cX5_move 38 = .ok (.invokevirtual 207, 3) := by decide +kernel
theorem dX5_move_41 : decode cX5_move 41 = .ok (.ifCond .ne 11, 3) := by decide +kernel
theorem dX5_move_44 : decode cX5_move 44 = .ok (.aload 7, 2) := by decide +kernel
theorem dX5_move_46 : decode cX5_move 46 = .ok (.invokevirtual 207, 3) := by decide +kernel
theorem dX5_move_49 : decode cX5_move 49 = .ok (.ifCond .eq 9, 3) := by decide +kernel
theorem dX5_move_52 : decode cX5_move 52 = .ok (.aload_n 0, 1) := by decide +kernel
theorem dX5_move_53 : decode cX5_move 53 = .ok (.iconst 2, 1) := by decide +kernel
theorem dX5_move_54 : decode cX5_move 54 = .ok (.invokevirtual 60, 3) := by decide +kernel
theorem dX5_move_57 : decode cX5_move 57 = .ok (.ireturn, 1) := by decide +kernel
theorem dX5_move_58 : decode cX5_move 58 = .ok (.aload 6, 2) := by decide +kernel
theorem dX5_move_60 : decode cX5_move 60 = .ok (.getfield 241, 3) := by decide +kernel
theorem dX5_move_63 : decode cX5_move 63 = .ok (.aload 7, 2) := by decide +kernel
theorem dX5_move_65 : decode cX5_move 65 = .ok (.getfield 241, 3) := by decide +kernel
theorem dX5_move_68 : decode cX5_move 68 = .ok (.if_icmp .eq 9, 3) := by decide +kernel
theorem dX5_move_71 : decode cX5_move 71 = .ok (.aload_n 0, 1) := by decide +kernel
theorem dX5_move_72 : decode cX5_move 72 = .ok (.iconst 5, 1) := by decide +kernel
theorem dX5_move_73 : decode cX5_move 73 = .ok (.invokevirtual 60, 3) := by decide +kernel
theorem dX5_move_76 : decode cX5_move 76 = .ok (.ireturn, 1) := by decide +kernel
theorem dX5_move_77 : decode cX5_move 77 = .ok (.aload 6, 2) := by decide +kernel
theorem dX5_move_79 : decode cX5_move 79 = .ok (.iload_n 2, 1) := by decide +kernel
theorem dX5_move_80 : decode cX5_move 80 = .ok (.iload 5, 2) := by decide +kernel
theorem dX5_move_82 : decode cX5_move 82 = .ok (.invokevirtual 244, 3) := by decide +kernel
theorem dX5_move_85 : decode cX5_move 85 = .ok (.ifCond .eq 15, 3) := by decide +kernel
theorem dX5_move_88 : decode cX5_move 88 = .ok (.aload 7, 2) := by decide +kernel
theorem dX5_move_90 : decode cX5_move 90 = .ok (.iload 4, 2) := by decide +kernel
theorem dX5_move_92 : decode cX5_move 92 = .ok (.iload 5, 2) := by decide +kernel
theorem dX5_move_94 : decode cX5_move 94 = .ok (.invokevirtual 244, 3) := by decide +kernel
theorem dX5_move_97 : decode cX5_move 97 = .ok (.ifCond .ne 9, 3) := by decide +kernel
theorem dX5_move_100 : decode cX5_move 100 = .ok (.aload_n 0, 1) := by decide +kernel
theorem dX5_move_101 : decode cX5_move 101 = .ok (.iconst 1, 1) := by decide +kernel
theorem dX5_move_102 : decode cX5_move 102 = .ok (.invokevirtual 60, 3) := by decide +kernel
theorem dX5_move_105 : decode cX5_move 105 = .ok (.ireturn, 1) := by decide +kernel
theorem dX5_move_106 : decode cX5_move 106 = .ok (.aload 6, 2) := by decide +kernel
theorem dX5_move_108 : decode cX5_move 108 = .ok (.getfield 235, 3) := by decide +kernel
theorem dX5_move_111 : decode cX5_move 111 = .ok (.iload_n 2, 1) := by decide +kernel
theorem dX5_move_112 : decode cX5_move 112 = .ok (.aload 7, 2) := by decide +kernel
theorem dX5_move_114 : decode cX5_move 114 = .ok (.getfield 235, 3) := by decide +kernel
theorem dX5_move_117 : decode cX5_move 117 = .ok (.iload 4, 2) := by decide +kernel
theorem dX5_move_119 : decode cX5_move 119 = .ok (.iload 5, 2) := by decide +kernel
theorem dX5_move_121 : decode cX5_move 121 = .ok (.invokestatic 247, 3) := by decide +kernel
theorem dX5_move_124 : decode cX5_move 124 = .ok (.iload 5, 2) := by decide +kernel
theorem dX5_move_126 : decode cX5_move 126 = .ok (.ireturn, 1) := by decide +kernel
theorem dX5_talks_0 : decode cX5_talks 0 = .ok (.iload_n 1, 1) := by decide +kernel
theorem dX5_talks_1 : decode cX5_talks 1 = .ok (.invokestatic 204, 3) := by decide +kernel
theorem dX5_talks_4 : decode cX5_talks 4 = .ok (.ifCond .ne 9, 3) := by decide +kernel
theorem dX5_talks_7 : decode cX5_talks 7 = .ok (.aload_n 0, 1) := by decide +kernel
theorem dX5_talks_8 : decode cX5_talks 8 = .ok (.iconst 1, 1) := by decide +kernel
theorem dX5_talks_9 : decode cX5_talks 9 = .ok (.invokevirtual 60, 3) := by decide +kernel
theorem dX5_talks_12 : decode cX5_talks 12 = .ok (.ireturn, 1) := by decide +kernel
theorem dX5_talks_13 : decode cX5_talks 13 = .ok (.aload_n 0, 1) := by decide +kernel
theorem dX5_talks_14 : decode cX5_talks 14 = .ok (.getfield 44, 3) := by decide +kernel
theorem dX5_talks_17 : decode cX5_talks 17 = .ok (.iload_n 1, 1) := by decide +kernel
theorem dX5_talks_18 : decode cX5_talks 18 = .ok (.aaload, 1) := by decide +kernel
theorem dX5_talks_19 : decode cX5_talks 19 = .ok (.astore_n 2, 1) := by decide +kernel
theorem dX5_talks_20 : decode cX5_talks 20 = .ok (.aload_n 2, 1) := by decide +kernel
theorem dX5_talks_21 : decode cX5_talks 21 = .ok (.invokevirtual 207, 3) := by decide +kernel
theorem dX5_talks_24 : decode cX5_talks 24 = .ok (.ifCond .eq 9, 3) := by decide +kernel
theorem dX5_talks_27 : decode cX5_talks 27 = .ok (.aload_n 0, 1) := by decide +kernel
theorem dX5_talks_28 : decode cX5_talks 28 = .ok (.iconst 2, 1) := by decide +kernel
theorem dX5_talks_29 : decode cX5_talks 29 = .ok (.invokevirtual 60, 3) := by decide +kernel
theorem dX5_talks_32 : decode cX5_talks 32 = .ok (.ireturn, 1) := by decide +kernel
theorem dX5_talks_33 : decode cX5_talks 33 = .ok (.aload_n 2, 1) := by decide +kernel
theorem dX5_talks_34 : decode cX5_talks 34 = .ok (.getfield 232, 3) := by decide +kernel
theorem dX5_talks_37 : decode cX5_talks 37 = .ok (.aload_n 0, 1) := by decide +kernel
theorem dX5_talks_38 : decode cX5_talks 38 = .ok (.getfield 10, 3) := by decide +kernel
theorem dX5_talks_41 : decode cX5_talks 41 = .ok (.getfield 64, 3) := by decide +kernel
theorem dX5_talks_44 : decode cX5_talks 44 = .ok (.invokestatic 253, 3) := by decide +kernel
theorem dX5_talks_47 : decode cX5_talks 47 = .ok (.istore_n 3, 1) := by decide +kernel
theorem dX5_talks_48 : decode cX5_talks 48 = .ok (.iconst 0, 1) := by decide +kernel
theorem dX5_talks_49 : decode cX5_talks 49 = .ok (.istore 4, 2) := by decide +kernel
theorem dX5_talks_51 : decode cX5_talks 51 = .ok (.iload 4, 2) := by decide +kernel
theorem dX5_talks_53 : decode cX5_talks 53 = .ok (.iload_n 3, 1) := by decide +kernel
theorem dX5_talks_54 : decode cX5_talks 54 = .ok (.if_icmp .ge 46, 3) := by decide +kernel
theorem dX5_talks_57 : decode cX5_talks 57 = .ok (.aload_n 2, 1) := by decide +kernel
theorem dX5_talks_58 : decode cX5_talks 58 = .ok (.getfield 235, 3) := by decide +kernel
theorem dX5_talks_61 : decode cX5_talks 61 = .ok (.iload 4, 2) := by decide +kernel
theorem dX5_talks_63 : decode cX5_talks 63 = .ok (.iaload, 1) := by decide +kernel
theorem dX5_talks_64 : decode cX5_talks 64 = .ok (.istore 5, 2) := by decide +kernel
theorem dX5_talks_66 : decode cX5_talks 66 = .ok (.iload 5, 2) := by decide +kernel
theorem dX5_talks_68 : decode cX5_talks 68 = .ok (.ifCond .lt 11, 3) := by decide +kernel
theorem dX5_talks_71 : decode cX5_talks 71 = .ok (.iload 5, 2) := by decide +kernel
theorem dX5_talks_73 : decode cX5_talks 73 = .ok (.ldc_w 258, 3) := by decide +kernel
theorem dX5_talks_76 : decode cX5_talks 76 = .ok (.if_icmp .le 6, 3) := by decide +kernel
theorem dX5_talks_79 : decode cX5_talks 79 = .ok (.iload 4, 2) := by decide +kernel
theorem dX5_talks_81 : decode cX5_talks 81 = .ok (.ireturn, 1) := by decide +kernel
theorem dX5_talks_82 : decode cX5_talks 82 = .ok (.aload_n 0, 1) := by decide +kernel
theorem dX5_talks_83 : decode cX5_talks 83 = .ok (.getfield 10, 3) := by decide +kernel
theorem dX5_talks_86 : decode cX5_talks 86 = .ok (.getfield 77, 3) := by decide +kernel
theorem dX5_talks_89 : decode cX5_talks 89 = .ok (.iload 4, 2) := by decide +kernel
theorem dX5_talks_91 : decode cX5_talks 91 = .ok (.iload 5, 2) := by decide +kernel
theorem dX5_talks_93 : decode cX5_talks 93 = .ok (.iastore, 1) := by decide +kernel
theorem dX5_talks_94 : decode cX5_talks 94 = .ok (.iinc 4 1, 3) := by decide +kernel
theorem dX5_talks_97 : decode cX5_talks 97 = .ok (.goto (-46), 3) := by decide +kernel
theorem dX5_talks_100 : decode cX5_talks 100 = .ok (.iload_n 3, 1) := by decide +kernel
theorem dX5_talks_101 : decode cX5_talks 101 = .ok (.ireturn, 1) := by decide +kernel
theorem dX5_judge_0 : decode cX5_judge 0 = .ok (.iload_n 1, 1) := by decide +kernel
theorem dX5_judge_1 : decode cX5_judge 1 = .ok (.invokestatic 204, 3) := by decide +kernel
theorem dX5_judge_4 : decode cX5_judge 4 = .ok (.ifCond .ne 9, 3) := by decide +kernel
theorem dX5_judge_7 : decode cX5_judge 7 = .ok (.aload_n 0, 1) := by decide +kernel
theorem dX5_judge_8 : decode cX5_judge 8 = .ok (.iconst 1, 1) := by decide +kernel
theorem dX5_judge_9 : decode cX5_judge 9 = .ok (.invokevirtual 60, 3) := by decide +kernel
theorem dX5_judge_12 : decode cX5_judge 12 = .ok (.ireturn, 1) := by decide +kernel
theorem dX5_judge_13 : decode cX5_judge 13 = .ok (.aload_n 0, 1) := by decide +kernel
theorem dX5_judge_14 : decode cX5_judge 14 = .ok (.getfield 44, 3) := by decide +kernel
theorem dX5_judge_17 : decode cX5_judge 17 = .ok (.iload_n 1, 1) := by decide +kernel
theorem dX5_judge_18 : decode cX5_judge 18 = .ok (.aaload, 1) := by decide +kernel
theorem dX5_judge_19 : decode cX5_judge 19 = .ok (.astore_n 2, 1) := by decide +kernel
theorem dX5_judge_20 : decode cX5_judge 20 = .ok (.aload_n 2, 1) := by decide +kernel
theorem dX5_judge_21 : decode cX5_judge 21 = .ok (.invokevirtual 207, 3) := by decide +kernel
theorem dX5_judge_24 : decode cX5_judge 24 = .ok (.ifCond .eq 9, 3) := by decide +kernel
theorem dX5_judge_27 : decode cX5_judge 27 = .ok (.aload_n 0, 1) := by decide +kernel
theorem dX5_judge_28 : decode cX5_judge 28 = .ok (.iconst 2, 1) := by decide +kernel
theorem dX5_judge_29 : decode cX5_judge 29 = .ok (.invokevirtual 60, 3) := by decide +kernel
theorem dX5_judge_32 : decode cX5_judge 32 = .ok (.ireturn, 1) := by decide +kernel
theorem dX5_judge_33 : decode cX5_judge 33 = .ok (.aload_n 2, 1) := by decide +kernel
theorem dX5_judge_34 : decode cX5_judge 34 = .ok (.getfield 232, 3) := by decide +kernel
theorem dX5_judge_37 : decode cX5_judge 37 = .ok (.aload_n 0, 1) := by decide +kernel
theorem dX5_judge_38 : decode cX5_judge 38 = .ok (.getfield 10, 3) := by decide +kernel
theorem dX5_judge_41 : decode cX5_judge 41 = .ok (.getfield 97, 3) := by decide +kernel
theorem dX5_judge_44 : decode cX5_judge 44 = .ok (.invokestatic 253, 3) := by decide +kernel
theorem dX5_judge_47 : decode cX5_judge 47 = .ok (.istore_n 3, 1) := by decide +kernel
theorem dX5_judge_48 : decode cX5_judge 48 = .ok (.iconst 0, 1) := by decide +kernel
theorem dX5_judge_49 : decode cX5_judge 49 = .ok (.istore 4, 2) := by decide +kernel
theorem dX5_judge_51 : decode cX5_judge 51 = .ok (.iload 4, 2) := by decide +kernel
theorem dX5_judge_53 : decode cX5_judge 53 = .ok (.iload_n 3, 1) := by decide +kernel
theorem dX5_judge_54 : decode cX5_judge 54 = .ok (.if_icmp .ge 31, 3) := by decide +kernel
theorem dX5_judge_57 : decode cX5_judge 57 = .ok (.aload_n 2, 1) := by decide +kernel
theorem dX5_judge_58 : decode cX5_judge 58 = .ok (.getfield 235, 3) := by decide +kernel
theorem dX5_judge_61 : decode cX5_judge 61 = .ok (.iload 4, 2) := by decide +kernel
theorem dX5_judge_63 : decode cX5_judge 63 = .ok (.iaload, 1) := by decide +kernel
theorem dX5_judge_64 : decode cX5_judge 64 = .ok (.aload_n 0, 1) := by decide +kernel
theorem dX5_judge_65 : decode cX5_judge 65 = .ok (.getfield 10, 3) := by decide +kernel
theorem dX5_judge_68 : decode cX5_judge 68 = .ok (.iload 4, 2) := by decide +kernel
theorem dX5_judge_70 : decode cX5_judge 70 = .ok (.invokevirtual 115, 3) := by decide +kernel
theorem dX5_judge_73 : decode cX5_judge 73 = .ok (.if_icmp .eq 6, 3) := by decide +kernel
theorem dX5_judge_76 : decode cX5_judge 76 = .ok (.iload 4, 2) := by decide +kernel
theorem dX5_judge_78 : decode cX5_judge 78 = .ok (.ireturn, 1) := by decide +kernel
theorem dX5_judge_79 : decode cX5_judge 79 = .ok (.iinc 4 1, 3) := by decide +kernel
theorem dX5_judge_82 : decode cX5_judge 82 = .ok (.goto (-31), 3) := by decide +kernel
theorem dX5_judge_85 : decode cX5_judge 85 = .ok (.iload_n 3, 1) := by decide +kernel
theorem dX5_judge_86 : decode cX5_judge 86 = .ok (.ireturn, 1) := by decide +kernel
theorem dX5_image_0 : decode cX5_image 0 = .ok (.aload_n 0, 1) := by decide +kernel
theorem dX5_image_1 : decode cX5_image 1 = .ok (.getfield 16, 3) := by decide +kernel
theorem dX5_image_4 : decode cX5_image 4 = .ok (.aload_n 0, 1) := by decide +kernel
theorem dX5_image_5 : decode cX5_image 5 = .ok (.getfield 10, 3) := by decide +kernel
theorem dX5_image_8 : decode cX5_image 8 = .ok (.invokevirtual 259, 3) := by decide +kernel
theorem dX5_image_11 : decode cX5_image 11 = .ok (.aload_n 0, 1) := by decide +kernel
theorem dX5_image_12 : decode cX5_image 12 = .ok (.dup, 1) := by decide +kernel
theorem dX5_image_13 : decode cX5_image 13 = .ok (.getfield 261, 3) := by decide +kernel
theorem dX5_image_16 : decode cX5_image 16 = .ok (.iconst 1, 1) := by decide +kernel
theorem dX5_image_17 : decode cX5_image 17 = .ok (.iadd, 1) := by decide +kernel
theorem dX5_image_18 : decode cX5_image 18 = .ok (.putfield 261, 3) := by decide +kernel
theorem dX5_image_21 : decode cX5_image 21 = .ok (.aload_n 0, 1) := by decide +kernel
theorem dX5_image_22 : decode cX5_image 22 = .ok (.getfield 261, 3) := by decide +kernel
theorem dX5_image_25 : decode cX5_image 25 = .ok (.ireturn, 1) := by decide +kernel
theorem dX5_restore_0 : decode cX5_restore 0 = .ok (.aload_n 0, 1) := by decide +kernel
theorem dX5_restore_1 : decode cX5_restore 1 = .ok (.getfield 261, 3) := by decide +kernel
theorem dX5_restore_4 : decode cX5_restore 4 = .ok (.ifCond .ne 9, 3) := by decide +kernel
theorem dX5_restore_7 : decode cX5_restore 7 = .ok (.aload_n 0, 1) := by decide +kernel
theorem dX5_restore_8 : decode cX5_restore 8 = .ok (.iconst 2, 1) := by decide +kernel
theorem dX5_restore_9 : decode cX5_restore 9 = .ok (.invokevirtual 60, 3) := by decide +kernel
theorem dX5_restore_12 : decode cX5_restore 12 = .ok (.ireturn, 1) := by decide +kernel
theorem dX5_restore_13 : decode cX5_restore 13 = .ok (.aload_n 0, 1) := by decide +kernel
theorem dX5_restore_14 : decode cX5_restore 14 = .ok (.getfield 10, 3) := by decide +kernel
theorem dX5_restore_17 : decode cX5_restore 17 = .ok (.aload_n 0, 1) := by decide +kernel
theorem dX5_restore_18 : decode cX5_restore 18 = .ok (.getfield 16, 3) := by decide +kernel
theorem dX5_restore_21 : decode cX5_restore 21 = .ok (.invokevirtual 259, 3) := by decide +kernel
theorem dX5_restore_24 : decode cX5_restore 24 = .ok (.aload_n 0, 1) := by decide +kernel
theorem dX5_restore_25 : decode cX5_restore 25 = .ok (.getfield 10, 3) := by decide +kernel
theorem dX5_restore_28 : decode cX5_restore 28 = .ok (.getfield 176, 3) := by decide +kernel
theorem dX5_restore_31 : decode cX5_restore 31 = .ok (.ireturn, 1) := by decide +kernel
theorem dX5_tell_0 : decode cX5_tell 0 = .ok (.aload_n 0, 1) := by decide +kernel
theorem dX5_tell_1 : decode cX5_tell 1 = .ok (.getfield 10, 3) := by decide +kernel
theorem dX5_tell_4 : decode cX5_tell 4 = .ok (.getfield 264, 3) := by decide +kernel
theorem dX5_tell_7 : decode cX5_tell 7 = .ok (.bipush 24, 2) := by decide +kernel
theorem dX5_tell_9 : decode cX5_tell 9 = .ok (.if_icmp .lt 9, 3) := by decide +kernel
theorem dX5_tell_12 : decode cX5_tell 12 = .ok (.aload_n 0, 1) := by decide +kernel
theorem dX5_tell_13 : decode cX5_tell 13 = .ok (.iconst 4, 1) := by decide +kernel
theorem dX5_tell_14 : decode cX5_tell 14 = .ok (.invokevirtual 60, 3) := by decide +kernel
theorem dX5_tell_17 : decode cX5_tell 17 = .ok (.ireturn, 1) := by decide +kernel
theorem dX5_tell_18 : decode cX5_tell 18 = .ok (.aload_n 0, 1) := by decide +kernel
theorem dX5_tell_19 : decode cX5_tell 19 = .ok (.getfield 10, 3) := by decide +kernel
theorem dX5_tell_22 : decode cX5_tell 22 = .ok (.getfield 267, 3) := by decide +kernel
theorem dX5_tell_25 : decode cX5_tell 25 = .ok (.aload_n 0, 1) := by decide +kernel
theorem dX5_tell_26 : decode cX5_tell 26 = .ok (.getfield 10, 3) := by decide +kernel
theorem dX5_tell_29 : decode cX5_tell 29 = .ok (.getfield 264, 3) := by decide +kernel
theorem dX5_tell_32 : decode cX5_tell 32 = .ok (.iload_n 1, 1) := by decide +kernel
theorem dX5_tell_33 : decode cX5_tell 33 = .ok (.iastore, 1) := by decide +kernel
theorem dX5_tell_34 : decode cX5_tell 34 = .ok (.aload_n 0, 1) := by decide +kernel
theorem dX5_tell_35 : decode cX5_tell 35 = .ok (.getfield 10, 3) := by decide +kernel
theorem dX5_tell_38 : decode cX5_tell 38 = .ok (.dup, 1) := by decide +kernel
theorem dX5_tell_39 : decode cX5_tell 39 = .ok (.getfield 264, 3) := by decide +kernel
theorem dX5_tell_42 : decode cX5_tell 42 = .ok (.iconst 1, 1) := by decide +kernel
theorem dX5_tell_43 : decode cX5_tell 43 = .ok (.iadd, 1) := by decide +kernel
theorem dX5_tell_44 : decode cX5_tell 44 = .ok (.putfield 264, 3) := by decide +kernel
theorem dX5_tell_47 : decode cX5_tell 47 = .ok (.aload_n 0, 1) := by decide +kernel
theorem dX5_tell_48 : decode cX5_tell 48 = .ok (.getfield 10, 3) := by decide +kernel
theorem dX5_tell_51 : decode cX5_tell 51 = .ok (.getfield 264, 3) := by decide +kernel
theorem dX5_tell_54 : decode cX5_tell 54 = .ok (.ireturn, 1) := by decide +kernel
theorem dX5_check_0 : decode cX5_check 0 = .ok (.aload_n 0, 1) := by decide +kernel
theorem dX5_check_1 : decode cX5_check 1 = .ok (.getfield 10, 3) := by decide +kernel
theorem dX5_check_4 : decode cX5_check 4 = .ok (.getfield 264, 3) := by decide +kernel
theorem dX5_check_7 : decode cX5_check 7 = .ok (.istore_n 1, 1) := by decide +kernel
theorem dX5_check_8 : decode cX5_check 8 = .ok (.aload_n 0, 1) := by decide +kernel
theorem dX5_check_9 : decode cX5_check 9 = .ok (.getfield 10, 3) := by decide +kernel
theorem dX5_check_12 : decode cX5_check 12 = .ok (.iconst 0, 1) := by decide +kernel
theorem dX5_check_13 : decode cX5_check 13 = .ok (.putfield 264, 3) := by decide +kernel
theorem dX5_check_16 : decode cX5_check 16 = .ok (.iconst 0, 1) := by decide +kernel
theorem dX5_check_17 : decode cX5_check 17 = .ok (.istore_n 2, 1) := by decide +kernel
theorem dX5_check_18 : decode cX5_check 18 = .ok (.iload_n 2, 1) := by decide +kernel
theorem dX5_check_19 : decode cX5_check 19 = .ok (.iload_n 1, 1) := by decide +kernel
theorem dX5_check_20 : decode cX5_check 20 = .ok (.if_icmp .ge 45, 3) := by decide +kernel
theorem dX5_check_23 : decode cX5_check 23 = .ok (.iload_n 2, 1) := by decide +kernel
theorem dX5_check_24 : decode cX5_check 24 = .ok (.aload_n 0, 1) := by decide +kernel
theorem dX5_check_25 : decode cX5_check 25 = .ok (.getfield 10, 3) := by decide +kernel
theorem dX5_check_28 : decode cX5_check 28 = .ok (.getfield 64, 3) := by decide +kernel
theorem dX5_check_31 : decode cX5_check 31 = .ok (.if_icmp .ge 24, 3) := by decide +kernel
theorem dX5_check_34 : decode cX5_check 34 = .ok (.aload_n 0, 1) := by decide +kernel
theorem dX5_check_35 : decode cX5_check 35 = .ok (.getfield 10, 3) := by decide +kernel
theorem dX5_check_38 : decode cX5_check 38 = .ok (.getfield 267, 3) := by decide +kernel
theorem dX5_check_41 : decode cX5_check 41 = .ok (.iload_n 2, 1) := by decide +kernel
theorem dX5_check_42 : decode cX5_check 42 = .ok (.iaload, 1) := by decide +kernel
theorem dX5_check_43 : decode cX5_check 43 = .ok (.aload_n 0, 1) := by decide +kernel
theorem dX5_check_44 : decode cX5_check 44 = .ok (.getfield 10, 3) := by decide +kernel
theorem dX5_check_47 : decode cX5_check 47 = .ok (.getfield 77, 3) := by decide +kernel
theorem dX5_check_50 : decode cX5_check 50 = .ok (.iload_n 2, 1) := by decide +kernel
theorem dX5_check_51 : decode cX5_check 51 = .ok (.iaload, 1) := by decide +kernel
theorem dX5_check_52 : decode cX5_check 52 = .ok (.if_icmp .eq 7, 3) := by decide +kernel
theorem dX5_check_55 : decode cX5_check 55 = .ok (.iconst 1, 1) := by decide +kernel
theorem dX5_check_56 : decode cX5_check 56 = .ok (.iload_n 2, 1) := by decide +kernel
theorem dX5_check_57 : decode cX5_check 57 = .ok (.iadd, 1) := by decide +kernel
theorem dX5_check_58 : decode cX5_check 58 = .ok (.ireturn, 1) := by decide +kernel
theorem dX5_check_59 : decode cX5_check 59 = .ok (.iinc 2 1, 3) := by decide +kernel
theorem dX5_check_62 : decode cX5_check 62 = .ok (.goto (-44), 3) := by decide +kernel
theorem dX5_check_65 : decode cX5_check 65 = .ok (.iconst 0, 1) := by decide +kernel
theorem dX5_check_66 : decode cX5_check 66 = .ok (.ireturn, 1) := by decide +kernel
theorem dX5_count_0 : decode cX5_count 0 = .ok (.iload_n 1, 1) := by decide +kernel
theorem dX5_count_1 : decode cX5_count 1 = .ok (.tableswitch 123 0 8 #[51, 59, 67, 75, 83, 91, 99, 107, 115], 51) := by decide +kernel
theorem dX5_count_52 : decode cX5_count 52 = .ok (.aload_n 0, 1) := by decide +kernel
theorem dX5_count_53 : decode cX5_count 53 = .ok (.getfield 10, 3) := by decide +kernel
theorem dX5_count_56 : decode cX5_count 56 = .ok (.getfield 64, 3) := by decide +kernel
theorem dX5_count_59 : decode cX5_count 59 = .ok (.ireturn, 1) := by decide +kernel
theorem dX5_count_60 : decode cX5_count 60 = .ok (.aload_n 0, 1) := by decide +kernel
theorem dX5_count_61 : decode cX5_count 61 = .ok (.getfield 10, 3) := by decide +kernel
theorem dX5_count_64 : decode cX5_count 64 = .ok (.getfield 97, 3) := by decide +kernel
theorem dX5_count_67 : decode cX5_count 67 = .ok (.ireturn, 1) := by decide +kernel
theorem dX5_count_68 : decode cX5_count 68 = .ok (.aload_n 0, 1) := by decide +kernel
theorem dX5_count_69 : decode cX5_count 69 = .ok (.getfield 10, 3) := by decide +kernel
theorem dX5_count_72 : decode cX5_count 72 = .ok (.getfield 121, 3) := by decide +kernel
theorem dX5_count_75 : decode cX5_count 75 = .ok (.ireturn, 1) := by decide +kernel
theorem dX5_count_76 : decode cX5_count 76 = .ok (.aload_n 0, 1) := by decide +kernel
theorem dX5_count_77 : decode cX5_count 77 = .ok (.getfield 10, 3) := by decide +kernel
theorem dX5_count_80 : decode cX5_count 80 = .ok (.getfield 176, 3) := by decide +kernel
theorem dX5_count_83 : decode cX5_count 83 = .ok (.ireturn, 1) := by decide +kernel
theorem dX5_count_84 : decode cX5_count 84 = .ok (.aload_n 0, 1) := by decide +kernel
theorem dX5_count_85 : decode cX5_count 85 = .ok (.getfield 10, 3) := by decide +kernel
theorem dX5_count_88 : decode cX5_count 88 = .ok (.getfield 109, 3) := by decide +kernel
theorem dX5_count_91 : decode cX5_count 91 = .ok (.ireturn, 1) := by decide +kernel
theorem dX5_count_92 : decode cX5_count 92 = .ok (.aload_n 0, 1) := by decide +kernel
theorem dX5_count_93 : decode cX5_count 93 = .ok (.getfield 10, 3) := by decide +kernel
theorem dX5_count_96 : decode cX5_count 96 = .ok (.getfield 124, 3) := by decide +kernel
theorem dX5_count_99 : decode cX5_count 99 = .ok (.ireturn, 1) := by decide +kernel
theorem dX5_count_100 : decode cX5_count 100 = .ok (.aload_n 0, 1) := by decide +kernel
theorem dX5_count_101 : decode cX5_count 101 = .ok (.getfield 10, 3) := by decide +kernel
theorem dX5_count_104 : decode cX5_count 104 = .ok (.getfield 264, 3) := by decide +kernel
theorem dX5_count_107 : decode cX5_count 107 = .ok (.ireturn, 1) := by decide +kernel
theorem dX5_count_108 : decode cX5_count 108 = .ok (.aload_n 0, 1) := by decide +kernel
theorem dX5_count_109 : decode cX5_count 109 = .ok (.getfield 38, 3) := by decide +kernel
theorem dX5_count_112 : decode cX5_count 112 = .ok (.getfield 222, 3) := by decide +kernel
theorem dX5_count_115 : decode cX5_count 115 = .ok (.ireturn, 1) := by decide +kernel
theorem dX5_count_116 : decode cX5_count 116 = .ok (.aload_n 0, 1) := by decide +kernel
theorem dX5_count_117 : decode cX5_count 117 = .ok (.getfield 10, 3) := by decide +kernel
theorem dX5_count_120 : decode cX5_count 120 = .ok (.getfield 186, 3) := by decide +kernel
theorem dX5_count_123 : decode cX5_count 123 = .ok (.ireturn, 1) := by decide +kernel
theorem dX5_count_124 : decode cX5_count 124 = .ok (.aload_n 0, 1) := by decide +kernel
theorem dX5_count_125 : decode cX5_count 125 = .ok (.iconst 1, 1) := by decide +kernel
theorem dX5_count_126 : decode cX5_count 126 = .ok (.invokevirtual 60, 3) := by decide +kernel
theorem dX5_count_129 : decode cX5_count 129 = .ok (.ireturn, 1) := by decide +kernel
theorem dX5_told_0 : decode cX5_told 0 = .ok (.iload_n 1, 1) := by decide +kernel
theorem dX5_told_1 : decode cX5_told 1 = .ok (.iconst 1, 1) := by decide +kernel
theorem dX5_told_2 : decode cX5_told 2 = .ok (.if_icmp .lt 9, 3) := by decide +kernel
theorem dX5_told_5 : decode cX5_told 5 = .ok (.iload_n 1, 1) := by decide +kernel
theorem dX5_told_6 : decode cX5_told 6 = .ok (.bipush 6, 2) := by decide +kernel
theorem dX5_told_8 : decode cX5_told 8 = .ok (.if_icmp .le 9, 3) := by decide +kernel
theorem dX5_told_11 : decode cX5_told 11 = .ok (.aload_n 0, 1) := by decide +kernel
theorem dX5_told_12 : decode cX5_told 12 = .ok (.iconst 1, 1) := by decide +kernel
theorem dX5_told_13 : decode cX5_told 13 = .ok (.invokevirtual 60, 3) := by decide +kernel
theorem dX5_told_16 : decode cX5_told 16 = .ok (.ireturn, 1) := by decide +kernel
theorem dX5_told_17 : decode cX5_told 17 = .ok (.aload_n 0, 1) := by decide +kernel
theorem dX5_told_18 : decode cX5_told 18 = .ok (.getfield 49, 3) := by decide +kernel
theorem dX5_told_21 : decode cX5_told 21 = .ok (.iload_n 1, 1) := by decide +kernel
theorem dX5_told_22 : decode cX5_told 22 = .ok (.iaload, 1) := by decide +kernel
theorem dX5_told_23 : decode cX5_told 23 = .ok (.ireturn, 1) := by decide +kernel
theorem dX5_error_0 : decode cX5_error 0 = .ok (.aload_n 0, 1) := by decide +kernel
theorem dX5_error_1 : decode cX5_error 1 = .ok (.getfield 49, 3) := by decide +kernel
theorem dX5_error_4 : decode cX5_error 4 = .ok (.iload_n 1, 1) := by decide +kernel
theorem dX5_error_5 : decode cX5_error 5 = .ok (.dup2, 1) := by decide +kernel
theorem dX5_error_6 : decode cX5_error 6 = .ok (.iaload, 1) := by decide +kernel
theorem dX5_error_7 : decode cX5_error 7 = .ok (.iconst 1, 1) := by decide +kernel
theorem dX5_error_8 : decode cX5_error 8 = .ok (.iadd, 1) := by decide +kernel
theorem dX5_error_9 : decode cX5_error 9 = .ok (.iastore, 1) := by decide +kernel
theorem dX5_error_10 : decode cX5_error 10 = .ok (.ldc_w 270, 3) := by decide +kernel
theorem dX5_error_13 : decode cX5_error 13 = .ok (.iload_n 1, 1) := by decide +kernel
theorem dX5_error_14 : decode cX5_error 14 = .ok (.isub, 1) := by decide +kernel
theorem dX5_error_15 : decode cX5_error 15 = .ok (.ireturn, 1) := by decide +kernel
theorem dX5_isBit_0 : decode cX5_isBit 0 = .ok (.iload_n 0, 1) := by decide +kernel
theorem dX5_isBit_1 : decode cX5_isBit 1 = .ok (.ifCond .eq 8, 3) := by decide +kernel
theorem dX5_isBit_4 : decode cX5_isBit 4 = .ok (.iload_n 0, 1) := by decide +kernel
theorem dX5_isBit_5 : decode cX5_isBit 5 = .ok (.iconst 1, 1) := by decide +kernel
theorem dX5_isBit_6 : decode cX5_isBit 6 = .ok (.if_icmp .ne 7, 3) := by decide +kernel
theorem dX5_isBit_9 : decode cX5_isBit 9 = .ok (.iconst 1, 1) := by decide +kernel
theorem dX5_isBit_10 : decode cX5_isBit 10 = .ok (.goto 4, 3) := by decide +kernel
theorem dX5_isBit_13 : decode cX5_isBit 13 = .ok (.iconst 0, 1) := by decide +kernel
theorem dX5_isBit_14 : decode cX5_isBit 14 = .ok (.ireturn, 1) := by decide +kernel
theorem dX5_isDigit_0 : decode cX5_isDigit 0 = .ok (.iload_n 0, 1) := by decide +kernel
theorem dX5_isDigit_1 : decode cX5_isDigit 1 = .ok (.ifCond .lt 13, 3) := by decide +kernel
theorem dX5_isDigit_4 : decode cX5_isDigit 4 = .ok (.iload_n 0, 1) := by decide +kernel
theorem dX5_isDigit_5 : decode cX5_isDigit 5 = .ok (.bipush 9, 2) := by decide +kernel
theorem dX5_isDigit_7 : decode cX5_isDigit 7 = .ok (.if_icmp .gt 7, 3) := by decide +kernel
theorem dX5_isDigit_10 : decode cX5_isDigit 10 = .ok (.iconst 1, 1) := by decide +kernel
theorem dX5_isDigit_11 : decode cX5_isDigit 11 = .ok (.goto 4, 3) := by decide +kernel
theorem dX5_isDigit_14 : decode cX5_isDigit 14 = .ok (.iconst 0, 1) := by decide +kernel
theorem dX5_isDigit_15 : decode cX5_isDigit 15 = .ok (.ireturn, 1) := by decide +kernel
theorem dX5_isKindAndM_0 : decode cX5_isKindAndM 0 = .ok (.iload_n 0, 1) := by decide +kernel
theorem dX5_isKindAndM_1 : decode cX5_isKindAndM 1 = .ok (.ifCond .lt 13, 3) := by decide +kernel
theorem dX5_isKindAndM_4 : decode cX5_isKindAndM 4 = .ok (.iload_n 0, 1) := by decide +kernel
theorem dX5_isKindAndM_5 : decode cX5_isKindAndM 5 = .ok (.bipush 70, 2) := by decide +kernel
theorem dX5_isKindAndM_7 : decode cX5_isKindAndM 7 = .ok (.if_icmp .ge 7, 3) := by decide +kernel
theorem dX5_isKindAndM_10 : decode cX5_isKindAndM 10 = .ok (.iconst 1, 1) := by decide +kernel
theorem dX5_isKindAndM_11 : decode cX5_isKindAndM 11 = .ok (.goto 4, 3) := by decide +kernel
theorem dX5_isKindAndM_14 : decode cX5_isKindAndM 14 = .ok (.iconst 0, 1) := by decide +kernel
theorem dX5_isKindAndM_15 : decode cX5_isKindAndM 15 = .ok (.ireturn, 1) := by decide +kernel
theorem dX5_isFountain_0 : decode cX5_isFountain 0 = .ok (.iload_n 1, 1) := by decide +kernel
theorem dX5_isFountain_1 : decode cX5_isFountain 1 = .ok (.ifCond .lt 18, 3) := by decide +kernel
theorem dX5_isFountain_4 : decode cX5_isFountain 4 = .ok (.iload_n 1, 1) := by decide +kernel
theorem dX5_isFountain_5 : decode cX5_isFountain 5 = .ok (.aload_n 0, 1) := by decide +kernel
theorem dX5_isFountain_6 : decode cX5_isFountain 6 = .ok (.getfield 10, 3) := by decide +kernel
theorem dX5_isFountain_9 : decode cX5_isFountain 9 = .ok (.getfield 64, 3) := by decide +kernel
theorem dX5_isFountain_12 : decode cX5_isFountain 12 = .ok (.if_icmp .ge 7, 3) := by decide +kernel
theorem dX5_isFountain_15 : decode cX5_isFountain 15 = .ok (.iconst 1, 1) := by decide +kernel
theorem dX5_isFountain_16 : decode cX5_isFountain 16 = .ok (.goto 4, 3) := by decide +kernel
theorem dX5_isFountain_19 : decode cX5_isFountain 19 = .ok (.iconst 0, 1) := by decide +kernel
theorem dX5_isFountain_20 : decode cX5_isFountain 20 = .ok (.ireturn, 1) := by decide +kernel
theorem dX5_isPipe_0 : decode cX5_isPipe 0 = .ok (.iload_n 1, 1) := by decide +kernel
theorem dX5_isPipe_1 : decode cX5_isPipe 1 = .ok (.ifCond .lt 18, 3) := by decide +kernel
theorem dX5_isPipe_4 : decode cX5_isPipe 4 = .ok (.iload_n 1, 1) := by decide +kernel
theorem dX5_isPipe_5 : decode cX5_isPipe 5 = .ok (.aload_n 0, 1) := by decide +kernel
theorem dX5_isPipe_6 : decode cX5_isPipe 6 = .ok (.getfield 10, 3) := by decide +kernel
theorem dX5_isPipe_9 : decode cX5_isPipe 9 = .ok (.getfield 97, 3) := by decide +kernel
theorem dX5_isPipe_12 : decode cX5_isPipe 12 = .ok (.if_icmp .ge 7, 3) := by decide +kernel
theorem dX5_isPipe_15 : decode cX5_isPipe 15 = .ok (.iconst 1, 1) := by decide +kernel
theorem dX5_isPipe_16 : decode cX5_isPipe 16 = .ok (.goto 4, 3) := by decide +kernel
theorem dX5_isPipe_19 : decode cX5_isPipe 19 = .ok (.iconst 0, 1) := by decide +kernel
theorem dX5_isPipe_20 : decode cX5_isPipe 20 = .ok (.ireturn, 1) := by decide +kernel
theorem dX5_isSaying_0 : decode cX5_isSaying 0 = .ok (.aload_n 0, 1) := by decide +kernel
theorem dX5_isSaying_1 : decode cX5_isSaying 1 = .ok (.iload_n 1, 1) := by decide +kernel
theorem dX5_isSaying_2 : decode cX5_isSaying 2 = .ok (.invokevirtual 80, 3) := by decide +kernel
theorem dX5_isSaying_5 : decode cX5_isSaying 5 = .ok (.ifCond .eq 18, 3) := by decide +kernel
theorem dX5_isSaying_8 : decode cX5_isSaying 8 = .ok (.iload_n 2, 1) := by decide +kernel
theorem dX5_isSaying_9 : decode cX5_isSaying 9 = .ok (.iconst 1, 1) := by decide +kernel
theorem dX5_isSaying_10 : decode cX5_isSaying 10 = .ok (.if_icmp .lt 13, 3) := by decide +kernel
theorem dX5_isSaying_13 : decode cX5_isSaying 13 = .ok (.iload_n 2, 1) := by decide +kernel
theorem dX5_isSaying_14 : decode cX5_isSaying 14 = .ok (.bipush 99, 2) := by decide +kernel
theorem dX5_isSaying_16 : decode cX5_isSaying 16 = .ok (.if_icmp .gt 7, 3) := by decide +kernel
theorem dX5_isSaying_19 : decode cX5_isSaying 19 = .ok (.iconst 1, 1) := by decide +kernel
theorem dX5_isSaying_20 : decode cX5_isSaying 20 = .ok (.goto 4, 3) := by decide +kernel
theorem dX5_isSaying_23 : decode cX5_isSaying 23 = .ok (.iconst 0, 1) := by decide +kernel
theorem dX5_isSaying_24 : decode cX5_isSaying 24 = .ok (.ireturn, 1) := by decide +kernel
theorem dX5_isSheet_0 : decode cX5_isSheet 0 = .ok (.iload_n 0, 1) := by decide +kernel
theorem dX5_isSheet_1 : decode cX5_isSheet 1 = .ok (.ifCond .lt 12, 3) := by decide +kernel
theorem dX5_isSheet_4 : decode cX5_isSheet 4 = .ok (.iload_n 0, 1) := by decide +kernel
theorem dX5_isSheet_5 : decode cX5_isSheet 5 = .ok (.iconst 4, 1) := by decide +kernel
theorem dX5_isSheet_6 : decode cX5_isSheet 6 = .ok (.if_icmp .ge 7, 3) := by decide +kernel
theorem dX5_isSheet_9 : decode cX5_isSheet 9 = .ok (.iconst 1, 1) := by decide +kernel
theorem dX5_isSheet_10 : decode cX5_isSheet 10 = .ok (.goto 4, 3) := by decide +kernel
theorem dX5_isSheet_13 : decode cX5_isSheet 13 = .ok (.iconst 0, 1) := by decide +kernel
theorem dX5_isSheet_14 : decode cX5_isSheet 14 = .ok (.ireturn, 1) := by decide +kernel
theorem dX5_isUnder_0 : decode cX5_isUnder 0 = .ok (.iload_n 0, 1) := by decide +kernel
theorem dX5_isUnder_1 : decode cX5_isUnder 1 = .ok (.istore_n 2, 1) := by decide +kernel
theorem dX5_isUnder_2 : decode cX5_isUnder 2 = .ok (.iconst 0, 1) := by decide +kernel
theorem dX5_isUnder_3 : decode cX5_isUnder 3 = .ok (.istore_n 3, 1) := by decide +kernel
theorem dX5_isUnder_4 : decode cX5_isUnder 4 = .ok (.iload_n 3, 1) := by decide +kernel
theorem dX5_isUnder_5 : decode cX5_isUnder 5 = .ok (.bipush 7, 2) := by decide +kernel
theorem dX5_isUnder_7 : decode cX5_isUnder 7 = .ok (.if_icmp .ge 20, 3) := by decide +kernel
theorem dX5_isUnder_10 : decode cX5_isUnder 10 = .ok (.iload_n 2, 1) := by decide +kernel
theorem dX5_isUnder_11 : decode cX5_isUnder 11 = .ok (.iload_n 1, 1) := by decide +kernel
theorem dX5_isUnder_12 : decode cX5_isUnder 12 = .ok (.if_icmp .eq 15, 3) := by decide +kernel
theorem dX5_isUnder_15 : decode cX5_isUnder 15 = .ok (.getstatic 271, 3) := by decide +kernel
theorem dX5_isUnder_18 : decode cX5_isUnder 18 = .ok (.iload_n 2, 1) := by decide +kernel
theorem dX5_isUnder_19 : decode cX5_isUnder 19 = .ok (.iaload, 1) := by decide +kernel
theorem dX5_isUnder_20 : decode cX5_isUnder 20 = .ok (.istore_n 2, 1) := by decide +kernel
theorem dX5_isUnder_21 : decode cX5_isUnder 21 = .ok (.iinc 3 1, 3) := by decide +kernel
theorem dX5_isUnder_24 : decode cX5_isUnder 24 = .ok (.goto (-20), 3) := by decide +kernel
theorem dX5_isUnder_27 : decode cX5_isUnder 27 = .ok (.iload_n 2, 1) := by decide +kernel
theorem dX5_isUnder_28 : decode cX5_isUnder 28 = .ok (.iload_n 1, 1) := by decide +kernel
theorem dX5_isUnder_29 : decode cX5_isUnder 29 = .ok (.if_icmp .ne 7, 3) := by decide +kernel
theorem dX5_isUnder_32 : decode cX5_isUnder 32 = .ok (.iconst 1, 1) := by decide +kernel
theorem dX5_isUnder_33 : decode cX5_isUnder 33 = .ok (.goto 4, 3) := by decide +kernel
theorem dX5_isUnder_36 : decode cX5_isUnder 36 = .ok (.iconst 0, 1) := by decide +kernel
theorem dX5_isUnder_37 : decode cX5_isUnder 37 = .ok (.ireturn, 1) := by decide +kernel
theorem dX5_commonDivisor_0 : decode cX5_commonDivisor 0 = .ok (.iload_n 1, 1) := by decide +kernel
theorem dX5_commonDivisor_1 : decode cX5_commonDivisor 1 = .ok (.istore_n 2, 1) := by decide +kernel
theorem dX5_commonDivisor_2 : decode cX5_commonDivisor 2 = .ok (.iload_n 2, 1) := by decide +kernel
theorem dX5_commonDivisor_3 : decode cX5_commonDivisor 3 = .ok (.iconst 1, 1) := by decide +kernel
theorem dX5_commonDivisor_4 : decode cX5_commonDivisor 4 = .ok (.if_icmp .le 23, 3) := by decide +kernel
theorem dX5_commonDivisor_7 : decode cX5_commonDivisor 7 = .ok (.iload_n 0, 1) := by decide +kernel
theorem dX5_commonDivisor_8 : decode cX5_commonDivisor 8 = .ok (.iload_n 2, 1) := by decide +kernel
theorem dX5_commonDivisor_9 : decode cX5_commonDivisor 9 = .ok (.irem, 1) := by decide +kernel
theorem dX5_commonDivisor_10 : decode cX5_commonDivisor 10 = .ok (.ifCond .ne 11, 3) := by decide +kernel
theorem dX5_commonDivisor_13 : decode cX5_commonDivisor 13 = .ok (.iload_n 1, 1) := by decide +kernel
theorem dX5_commonDivisor_14 : decode cX5_commonDivisor 14 = .ok (.iload_n 2, 1) := by decide +kernel
theorem dX5_commonDivisor_15 : decode cX5_commonDivisor 15 = .ok (.irem, 1) := by decide +kernel
theorem dX5_commonDivisor_16 : decode cX5_commonDivisor 16 = .ok (.ifCond .ne 5, 3) := by decide +kernel
theorem dX5_commonDivisor_19 : decode cX5_commonDivisor 19 = .ok (.iload_n 2, 1) := by decide +kernel
theorem dX5_commonDivisor_20 : decode cX5_commonDivisor 20 = .ok (.ireturn, 1) := by decide +kernel
theorem dX5_commonDivisor_21 : decode cX5_commonDivisor 21 = .ok (.iinc 2 (-1), 3) := by decide +kernel
theorem dX5_commonDivisor_24 : decode cX5_commonDivisor 24 = .ok (.goto (-22), 3) := by decide +kernel
theorem dX5_commonDivisor_27 : decode cX5_commonDivisor 27 = .ok (.iconst 1, 1) := by decide +kernel
theorem dX5_commonDivisor_28 : decode cX5_commonDivisor 28 = .ok (.ireturn, 1) := by decide +kernel
theorem dX5_letOut_0 : decode cX5_letOut 0 = .ok (.aload_n 0, 1) := by decide +kernel
theorem dX5_letOut_1 : decode cX5_letOut 1 = .ok (.getfield 24, 3) := by decide +kernel
theorem dX5_letOut_4 : decode cX5_letOut 4 = .ok (.invokevirtual 154, 3) := by decide +kernel
theorem dX5_letOut_7 : decode cX5_letOut 7 = .ok (.aload_n 0, 1) := by decide +kernel
theorem dX5_letOut_8 : decode cX5_letOut 8 = .ok (.getfield 24, 3) := by decide +kernel
theorem dX5_letOut_11 : decode cX5_letOut 11 = .ok (.iload_n 1, 1) := by decide +kernel
theorem dX5_letOut_12 : decode cX5_letOut 12 = .ok (.iload_n 2, 1) := by decide +kernel
theorem dX5_letOut_13 : decode cX5_letOut 13 = .ok (.aload_n 0, 1) := by decide +kernel
theorem dX5_letOut_14 : decode cX5_letOut 14 = .ok (.getfield 10, 3) := by decide +kernel
theorem dX5_letOut_17 : decode cX5_letOut 17 = .ok (.getfield 109, 3) := by decide +kernel
theorem dX5_letOut_20 : decode cX5_letOut 20 = .ok (.invokevirtual 157, 3) := by decide +kernel
theorem dX5_letOut_23 : decode cX5_letOut 23 = .ok (.iconst 0, 1) := by decide +kernel
theorem dX5_letOut_24 : decode cX5_letOut 24 = .ok (.istore_n 3, 1) := by decide +kernel
theorem dX5_letOut_25 : decode cX5_letOut 25 = .ok (.iload_n 3, 1) := by decide +kernel
theorem dX5_letOut_26 : decode cX5_letOut 26 = .ok (.aload_n 0, 1) := by decide +kernel
theorem dX5_letOut_27 : decode cX5_letOut 27 = .ok (.getfield 10, 3) := by decide +kernel
theorem dX5_letOut_30 : decode cX5_letOut 30 = .ok (.getfield 64, 3) := by decide +kernel
theorem dX5_letOut_33 : decode cX5_letOut 33 = .ok (.if_icmp .ge 54, 3) := by decide +kernel
theorem dX5_letOut_36 : decode cX5_letOut 36 = .ok (.aload_n 0, 1) := by decide +kernel
theorem dX5_letOut_37 : decode cX5_letOut 37 = .ok (.getfield 24, 3) := by decide +kernel
theorem dX5_letOut_40 : decode cX5_letOut 40 = .ok (.iload_n 3, 1) := by decide +kernel
theorem dX5_letOut_41 : decode cX5_letOut 41 = .ok (.invokevirtual 164, 3) := by decide +kernel
theorem dX5_letOut_44 : decode cX5_letOut 44 = .ok (.ifCond .eq 37, 3) := by decide +kernel
theorem dX5_letOut_47 : decode cX5_letOut 47 = .ok (.aload_n 0, 1) := by decide +kernel
theorem dX5_letOut_48 : decode cX5_letOut 48 = .ok (.getfield 10, 3) := by decide +kernel
theorem dX5_letOut_51 : decode cX5_letOut 51 = .ok (.getfield 77, 3) := by decide +kernel
theorem dX5_letOut_54 : decode cX5_letOut 54 = .ok (.iload_n 3, 1) := by decide +kernel
theorem dX5_letOut_55 : decode cX5_letOut 55 = .ok (.ldc_w 258, 3) := by decide +kernel
theorem dX5_letOut_58 : decode cX5_letOut 58 = .ok (.aload_n 0, 1) := by decide +kernel
theorem dX5_letOut_59 : decode cX5_letOut 59 = .ok (.getfield 10, 3) := by decide +kernel
theorem dX5_letOut_62 : decode cX5_letOut 62 = .ok (.getfield 77, 3) := by decide +kernel
theorem dX5_letOut_65 : decode cX5_letOut 65 = .ok (.iload_n 3, 1) := by decide +kernel
theorem dX5_letOut_66 : decode cX5_letOut 66 = .ok (.iaload, 1) := by decide +kernel
theorem dX5_letOut_67 : decode cX5_letOut 67 = .ok (.aload_n 0, 1) := by decide +kernel
theorem dX5_letOut_68 : decode cX5_letOut 68 = .ok (.getfield 24, 3) := by decide +kernel
theorem dX5_letOut_71 : decode cX5_letOut 71 = .ok (.getfield 170, 3) := by decide +kernel
theorem dX5_letOut_74 : decode cX5_letOut 74 = .ok (.iload_n 3, 1) := by decide +kernel
theorem dX5_letOut_75 : decode cX5_letOut 75 = .ok (.iaload, 1) := by decide +kernel
theorem dX5_letOut_76 : decode cX5_letOut 76 = .ok (.iadd, 1) := by decide +kernel
theorem dX5_letOut_77 : decode cX5_letOut 77 = .ok (.invokestatic 253, 3) := by decide +kernel
theorem dX5_letOut_80 : decode cX5_letOut 80 = .ok (.iastore, 1) := by decide +kernel
theorem dX5_letOut_81 : decode cX5_letOut 81 = .ok (.iinc 3 1, 3) := by decide +kernel
theorem dX5_letOut_84 : decode cX5_letOut 84 = .ok (.goto (-59), 3) := by decide +kernel
theorem dX5_letOut_87 : decode cX5_letOut 87 = .ok (.aload_n 0, 1) := by decide +kernel
theorem dX5_letOut_88 : decode cX5_letOut 88 = .ok (.getfield 24, 3) := by decide +kernel
theorem dX5_letOut_91 : decode cX5_letOut 91 = .ok (.getfield 161, 3) := by decide +kernel
theorem dX5_letOut_94 : decode cX5_letOut 94 = .ok (.ireturn, 1) := by decide +kernel
theorem dX5_fewestToShut_0 : decode cX5_fewestToShut 0 = .ok (.aload_n 0, 1) := by decide +kernel
theorem dX5_fewestToShut_1 : decode cX5_fewestToShut 1 = .ok (.getfield 24, 3) := by decide +kernel
theorem dX5_fewestToShut_4 : decode cX5_fewestToShut 4 = .ok (.invokevirtual 154, 3) := by decide +kernel
theorem dX5_fewestToShut_7 : decode cX5_fewestToShut 7 = .ok (.aload_n 0, 1) := by decide +kernel
theorem dX5_fewestToShut_8 : decode cX5_fewestToShut 8 = .ok (.getfield 10, 3) := by decide +kernel
theorem dX5_fewestToShut_11 : decode cX5_fewestToShut 11 = .ok (.getfield 109, 3) := by decide +kernel
theorem dX5_fewestToShut_14 : decode cX5_fewestToShut 14 = .ok (.istore 4, 2) := by decide +kernel
theorem dX5_fewestToShut_16 : decode cX5_fewestToShut 16 = .ok (.iconst 0, 1) := by decide +kernel
theorem dX5_fewestToShut_17 : decode cX5_fewestToShut 17 = .ok (.istore 5, 2) := by decide +kernel
theorem dX5_fewestToShut_19 : decode cX5_fewestToShut 19 = .ok (.iload 5, 2) := by decide +kernel
theorem dX5_fewestToShut_21 : decode cX5_fewestToShut 21 = .ok (.iconst 1, 1) := by decide +kernel
theorem dX5_fewestToShut_22 : decode cX5_fewestToShut 22 = .ok (.aload_n 0, 1) := by decide +kernel
theorem dX5_fewestToShut_23 : decode cX5_fewestToShut 23 = .ok (.getfield 10, 3) := by decide +kernel
theorem dX5_fewestToShut_26 : decode cX5_fewestToShut 26 = .ok (.getfield 97, 3) := by decide +kernel
theorem dX5_fewestToShut_29 : decode cX5_fewestToShut 29 = .ok (.ishl, 1) := by decide +kernel
theorem dX5_fewestToShut_30 : decode cX5_fewestToShut 30 = .ok (.if_icmp .ge 79, 3) := by decide +kernel
theorem dX5_fewestToShut_33 : decode cX5_fewestToShut 33 = .ok (.iload 5, 2) := by decide +kernel
theorem dX5_fewestToShut_35 : decode cX5_fewestToShut 35 = .ok (.aload_n 0, 1) := by decide +kernel
theorem dX5_fewestToShut_36 : decode cX5_fewestToShut 36 = .ok (.getfield 10, 3) := by decide +kernel
theorem dX5_fewestToShut_39 : decode cX5_fewestToShut 39 = .ok (.getfield 109, 3) := by decide +kernel
theorem dX5_fewestToShut_42 : decode cX5_fewestToShut 42 = .ok (.iconst (-1), 1) := by decide +kernel
theorem dX5_fewestToShut_43 : decode cX5_fewestToShut 43 = .ok (.ixor, 1) := by decide +kernel
theorem dX5_fewestToShut_44 : decode cX5_fewestToShut 44 = .ok (.iand, 1) := by decide +kernel
theorem dX5_fewestToShut_45 : decode cX5_fewestToShut 45 = .ok (.ifCond .eq 6, 3) := by decide +kernel
theorem dX5_fewestToShut_48 : decode cX5_fewestToShut 48 = .ok (.goto 55, 3) := by decide +kernel
theorem dX5_fewestToShut_51 : decode cX5_fewestToShut 51 = .ok (.iload 5, 2) := by decide +kernel
theorem dX5_fewestToShut_53 : decode cX5_fewestToShut 53 = .ok (.invokestatic 193, 3) := by decide +kernel
theorem dX5_fewestToShut_56 : decode cX5_fewestToShut 56 = .ok (.iload 4, 2) := by decide +kernel
theorem dX5_fewestToShut_58 : decode cX5_fewestToShut 58 = .ok (.invokestatic 193, 3) := by decide +kernel
theorem dX5_fewestToShut_61 : decode cX5_fewestToShut 61 = .ok (.if_icmp .lt 6, 3) := by decide +kernel
theorem dX5_fewestToShut_64 : decode cX5_fewestToShut 64 = .ok (.goto 39, 3) := by decide +kernel
theorem dX5_fewestToShut_67 : decode cX5_fewestToShut 67 = .ok (.aload_n 0, 1) := by decide +kernel
theorem dX5_fewestToShut_68 : decode cX5_fewestToShut 68 = .ok (.getfield 24, 3) := by decide +kernel
theorem dX5_fewestToShut_71 : decode cX5_fewestToShut 71 = .ok (.iload_n 1, 1) := by decide +kernel
theorem dX5_fewestToShut_72 : decode cX5_fewestToShut 72 = .ok (.iload_n 2, 1) := by decide +kernel
theorem dX5_fewestToShut_73 : decode cX5_fewestToShut 73 = .ok (.aload_n 0, 1) := by decide +kernel
theorem dX5_fewestToShut_74 : decode cX5_fewestToShut 74 = .ok (.getfield 10, 3) := by decide +kernel
theorem dX5_fewestToShut_77 : decode cX5_fewestToShut 77 = .ok (.getfield 109, 3) := by decide +kernel
theorem dX5_fewestToShut_80 : decode cX5_fewestToShut 80 = .ok (.iload 5, 2) := by decide +kernel
theorem dX5_fewestToShut_82 : decode cX5_fewestToShut 82 = .ok (.iconst (-1), 1) := by decide +kernel
theorem dX5_fewestToShut_83 : decode cX5_fewestToShut 83 = .ok (.ixor, 1) := by decide +kernel
theorem dX5_fewestToShut_84 : decode cX5_fewestToShut 84 = .ok (.iand, 1) := by decide +kernel
theorem dX5_fewestToShut_85 : decode cX5_fewestToShut 85 = .ok (.invokevirtual 157, 3) := by decide +kernel
theorem dX5_fewestToShut_88 : decode cX5_fewestToShut 88 = .ok (.aload_n 0, 1) := by decide +kernel
theorem dX5_fewestToShut_89 : decode cX5_fewestToShut 89 = .ok (.getfield 24, 3) := by decide +kernel
theorem dX5_fewestToShut_92 : decode cX5_fewestToShut 92 = .ok (.iload_n 3, 1) := by decide +kernel
theorem dX5_fewestToShut_93 : decode cX5_fewestToShut 93 = .ok (.invokevirtual 164, 3) := by decide +kernel
theorem dX5_fewestToShut_96 : decode cX5_fewestToShut 96 = .ok (.ifCond .ne 7, 3) := by decide +kernel
theorem dX5_fewestToShut_99 : decode cX5_fewestToShut 99 = .ok (.iload 5, 2) := by decide +kernel
theorem dX5_fewestToShut_101 : decode cX5_fewestToShut 101 = .ok (.istore 4, 2) := by decide +kernel
theorem dX5_fewestToShut_103 : decode cX5_fewestToShut 103 = .ok (.iinc 5 1, 3) := by decide +kernel
theorem dX5_fewestToShut_106 : decode cX5_fewestToShut 106 = .ok (.goto (-87), 3) := by decide +kernel
theorem dX5_fewestToShut_109 : decode cX5_fewestToShut 109 = .ok (.iload 4, 2) := by decide +kernel
theorem dX5_fewestToShut_111 : decode cX5_fewestToShut 111 = .ok (.ireturn, 1) := by decide +kernel
theorem dX5_fewestToOpen_0 : decode cX5_fewestToOpen 0 = .ok (.aload_n 0, 1) := by decide +kernel
theorem dX5_fewestToOpen_1 : decode cX5_fewestToOpen 1 = .ok (.getfield 24, 3) := by decide +kernel
theorem dX5_fewestToOpen_4 : decode cX5_fewestToOpen 4 = .ok (.invokevirtual 154, 3) := by decide +kernel
theorem dX5_fewestToOpen_7 : decode cX5_fewestToOpen 7 = .ok (.iconst (-1), 1) := by decide +kernel
theorem dX5_fewestToOpen_8 : decode cX5_fewestToOpen 8 = .ok (.istore 5, 2) := by decide +kernel
theorem dX5_fewestToOpen_10 : decode cX5_fewestToOpen 10 = .ok (.iconst 0, 1) := by decide +kernel
theorem dX5_fewestToOpen_11 : decode cX5_fewestToOpen 11 = .ok (.istore 6, 2) := by decide +kernel
theorem dX5_fewestToOpen_13 : decode cX5_fewestToOpen 13 = .ok (.iload 6, 2) := by decide +kernel
theorem dX5_fewestToOpen_15 : decode cX5_fewestToOpen 15 = .ok (.iconst 1, 1) := by decide +kernel
theorem dX5_fewestToOpen_16 : decode cX5_fewestToOpen 16 = .ok (.aload_n 0, 1) := by decide +kernel
theorem dX5_fewestToOpen_17 : decode cX5_fewestToOpen 17 = .ok (.getfield 10, 3) := by decide +kernel
theorem dX5_fewestToOpen_20 : decode cX5_fewestToOpen 20 = .ok (.getfield 97, 3) := by decide +kernel
theorem dX5_fewestToOpen_23 : decode cX5_fewestToOpen 23 = .ok (.ishl, 1) := by decide +kernel
theorem dX5_fewestToOpen_24 : decode cX5_fewestToOpen 24 = .ok (.if_icmp .ge 94, 3) := by decide +kernel
theorem dX5_fewestToOpen_27 : decode cX5_fewestToOpen 27 = .ok (.iload 6, 2) := by decide +kernel
theorem dX5_fewestToOpen_29 : decode cX5_fewestToOpen 29 = .ok (.aload_n 0, 1) := by decide +kernel
theorem dX5_fewestToOpen_30 : decode cX5_fewestToOpen 30 = .ok (.getfield 10, 3) := by decide +kernel
theorem dX5_fewestToOpen_33 : decode cX5_fewestToOpen 33 = .ok (.getfield 109, 3) := by decide +kernel
theorem dX5_fewestToOpen_36 : decode cX5_fewestToOpen 36 = .ok (.iand, 1) := by decide +kernel
theorem dX5_fewestToOpen_37 : decode cX5_fewestToOpen 37 = .ok (.ifCond .eq 6, 3) := by decide +kernel
theorem dX5_fewestToOpen_40 : decode cX5_fewestToOpen 40 = .ok (.goto 72, 3) := by decide +kernel
theorem dX5_fewestToOpen_43 : decode cX5_fewestToOpen 43 = .ok (.iload 5, 2) := by decide +kernel
theorem dX5_fewestToOpen_45 : decode cX5_fewestToOpen 45 = .ok (.ifCond .lt 19, 3) := by decide +kernel
theorem dX5_fewestToOpen_48 : decode cX5_fewestToOpen 48 = .ok (.iload 6, 2) := by decide +kernel
theorem dX5_fewestToOpen_50 : decode cX5_fewestToOpen 50 = .ok (.invokestatic 193, 3) := by decide +kernel
theorem dX5_fewestToOpen_53 : decode cX5_fewestToOpen 53 = .ok (.iload 5, 2) := by decide +kernel
theorem dX5_fewestToOpen_55 : decode cX5_fewestToOpen 55 = .ok (.invokestatic 193, 3) := by decide +kernel
theorem dX5_fewestToOpen_58 : decode cX5_fewestToOpen 58 = .ok (.if_icmp .lt 6, 3) := by decide +kernel
theorem dX5_fewestToOpen_61 : decode cX5_fewestToOpen 61 = .ok (.goto 51, 3) := by decide +kernel
theorem dX5_fewestToOpen_64 : decode cX5_fewestToOpen 64 = .ok (.aload_n 0, 1) := by decide +kernel
theorem dX5_fewestToOpen_65 : decode cX5_fewestToOpen 65 = .ok (.getfield 24, 3) := by decide +kernel
theorem dX5_fewestToOpen_68 : decode cX5_fewestToOpen 68 = .ok (.iload_n 1, 1) := by decide +kernel
theorem dX5_fewestToOpen_69 : decode cX5_fewestToOpen 69 = .ok (.iload_n 2, 1) := by decide +kernel
theorem dX5_fewestToOpen_70 : decode cX5_fewestToOpen 70 = .ok (.aload_n 0, 1) := by decide +kernel
theorem dX5_fewestToOpen_71 : decode cX5_fewestToOpen 71 = .ok (.getfield 10, 3) := by decide +kernel
theorem dX5_fewestToOpen_74 : decode cX5_fewestToOpen 74 = .ok (.getfield 109, 3) := by decide +kernel
theorem dX5_fewestToOpen_77 : decode cX5_fewestToOpen 77 = .ok (.iload 6, 2) := by decide +kernel
theorem dX5_fewestToOpen_79 : decode cX5_fewestToOpen 79 = .ok (.ior, 1) := by decide +kernel
theorem dX5_fewestToOpen_80 : decode cX5_fewestToOpen 80 = .ok (.invokevirtual 157, 3) := by decide +kernel
theorem dX5_fewestToOpen_83 : decode cX5_fewestToOpen 83 = .ok (.aload_n 0, 1) := by decide +kernel
theorem dX5_fewestToOpen_84 : decode cX5_fewestToOpen 84 = .ok (.getfield 24, 3) := by decide +kernel
theorem dX5_fewestToOpen_87 : decode cX5_fewestToOpen 87 = .ok (.iload_n 3, 1) := by decide +kernel
theorem dX5_fewestToOpen_88 : decode cX5_fewestToOpen 88 = .ok (.invokevirtual 164, 3) := by decide +kernel
theorem dX5_fewestToOpen_91 : decode cX5_fewestToOpen 91 = .ok (.ifCond .eq 21, 3) := by decide +kernel
theorem dX5_fewestToOpen_94 : decode cX5_fewestToOpen 94 = .ok (.aload_n 0, 1) := by decide +kernel
theorem dX5_fewestToOpen_95 : decode cX5_fewestToOpen 95 = .ok (.getfield 24, 3) := by decide +kernel
theorem dX5_fewestToOpen_98 : decode cX5_fewestToOpen 98 = .ok (.getfield 167, 3) := by decide +kernel
theorem dX5_fewestToOpen_101 : decode cX5_fewestToOpen 101 = .ok (.iload_n 3, 1) := by decide +kernel
theorem dX5_fewestToOpen_102 : decode cX5_fewestToOpen 102 = .ok (.iaload, 1) := by decide +kernel
theorem dX5_fewestToOpen_103 : decode cX5_fewestToOpen 103 = .ok (.iload 4, 2) := by decide +kernel
theorem dX5_fewestToOpen_105 : decode cX5_fewestToOpen 105 = .ok (.if_icmp .gt 7, 3) := by decide +kernel
theorem dX5_fewestToOpen_108 : decode cX5_fewestToOpen 108 = .ok (.iload 6, 2) := by decide +kernel
theorem dX5_fewestToOpen_110 : decode cX5_fewestToOpen 110 = .ok (.istore 5, 2) := by decide +kernel
theorem dX5_fewestToOpen_112 : decode cX5_fewestToOpen 112 = .ok (.iinc 6 1, 3) := by decide +kernel
theorem dX5_fewestToOpen_115 : decode cX5_fewestToOpen 115 = .ok (.goto (-102), 3) := by decide +kernel
theorem dX5_fewestToOpen_118 : decode cX5_fewestToOpen 118 = .ok (.iload 5, 2) := by decide +kernel
theorem dX5_fewestToOpen_120 : decode cX5_fewestToOpen 120 = .ok (.ireturn, 1) := by decide +kernel
theorem dX5_isHeardAsIn_0 : decode cX5_isHeardAsIn 0 = .ok (.aload_n 1, 1) := by decide +kernel
theorem dX5_isHeardAsIn_1 : decode cX5_isHeardAsIn 1 = .ok (.getfield 232, 3) := by decide +kernel
theorem dX5_isHeardAsIn_4 : decode cX5_isHeardAsIn 4 = .ok (.aload_n 0, 1) := by decide +kernel
theorem dX5_isHeardAsIn_5 : decode cX5_isHeardAsIn 5 = .ok (.getfield 10, 3) := by decide +kernel
theorem dX5_isHeardAsIn_8 : decode cX5_isHeardAsIn 8 = .ok (.getfield 64, 3) := by decide +kernel
theorem dX5_isHeardAsIn_11 : decode cX5_isHeardAsIn 11 = .ok (.if_icmp .le 5, 3) := by decide +kernel
theorem dX5_isHeardAsIn_14 : decode cX5_isHeardAsIn 14 = .ok (.iconst 0, 1) := by decide +kernel
theorem dX5_isHeardAsIn_15 : decode cX5_isHeardAsIn 15 = .ok (.ireturn, 1) := by decide +kernel
theorem dX5_isHeardAsIn_16 : decode cX5_isHeardAsIn 16 = .ok (.iconst 0, 1) := by decide +kernel
theorem dX5_isHeardAsIn_17 : decode cX5_isHeardAsIn 17 = .ok (.istore_n 2, 1) := by decide +kernel
theorem dX5_isHeardAsIn_18 : decode cX5_isHeardAsIn 18 = .ok (.iload_n 2, 1) := by decide +kernel
theorem dX5_isHeardAsIn_19 : decode cX5_isHeardAsIn 19 = .ok (.aload_n 1, 1) := by decide +kernel
theorem dX5_isHeardAsIn_20 : decode cX5_isHeardAsIn 20 = .ok (.getfield 232, 3) := by decide +kernel
theorem dX5_isHeardAsIn_23 : decode cX5_isHeardAsIn 23 = .ok (.if_icmp .ge 46, 3) := by decide +kernel
theorem dX5_isHeardAsIn_26 : decode cX5_isHeardAsIn 26 = .ok (.aload_n 0, 1) := by decide +kernel
theorem dX5_isHeardAsIn_27 : decode cX5_isHeardAsIn 27 = .ok (.getfield 24, 3) := by decide +kernel
theorem dX5_isHeardAsIn_30 : decode cX5_isHeardAsIn 30 = .ok (.iload_n 2, 1) := by decide +kernel
theorem dX5_isHeardAsIn_31 : decode cX5_isHeardAsIn 31 = .ok (.invokevirtual 164, 3) := by decide +kernel
theorem dX5_isHeardAsIn_34 : decode cX5_isHeardAsIn 34 = .ok (.ifCond .eq 15, 3) := by decide +kernel
theorem dX5_isHeardAsIn_37 : decode cX5_isHeardAsIn 37 = .ok (.aload_n 0, 1) := by decide +kernel
theorem dX5_isHeardAsIn_38 : decode cX5_isHeardAsIn 38 = .ok (.getfield 24, 3) := by decide +kernel
theorem dX5_isHeardAsIn_41 : decode cX5_isHeardAsIn 41 = .ok (.getfield 170, 3) := by decide +kernel
theorem dX5_isHeardAsIn_44 : decode cX5_isHeardAsIn 44 = .ok (.iload_n 2, 1) := by decide +kernel
theorem dX5_isHeardAsIn_45 : decode cX5_isHeardAsIn 45 = .ok (.iaload, 1) := by decide +kernel
theorem dX5_isHeardAsIn_46 : decode cX5_isHeardAsIn 46 = .ok (.goto 4, 3) := by decide +kernel
theorem dX5_isHeardAsIn_49 : decode cX5_isHeardAsIn 49 = .ok (.iconst 0, 1) := by decide +kernel
theorem dX5_isHeardAsIn_50 : decode cX5_isHeardAsIn 50 = .ok (.istore_n 3, 1) := by decide +kernel
theorem dX5_isHeardAsIn_51 : decode cX5_isHeardAsIn 51 = .ok (.aload_n 1, 1) := by decide +kernel
theorem dX5_isHeardAsIn_52 : decode cX5_isHeardAsIn 52 = .ok (.getfield 235, 3) := by decide +kernel
theorem dX5_isHeardAsIn_55 : decode cX5_isHeardAsIn 55 = .ok (.iload_n 2, 1) := by decide +kernel
theorem dX5_isHeardAsIn_56 : decode cX5_isHeardAsIn 56 = .ok (.iaload, 1) := by decide +kernel
theorem dX5_isHeardAsIn_57 : decode cX5_isHeardAsIn 57 = .ok (.iload_n 3, 1) := by decide +kernel
theorem dX5_isHeardAsIn_58 : decode cX5_isHeardAsIn 58 = .ok (.if_icmp .eq 5, 3) := by decide +kernel
theorem dX5_isHeardAsIn_61 : decode cX5_isHeardAsIn 61 = .ok (.iconst 0, 1) := by decide +kernel
theorem dX5_isHeardAsIn_62 : decode cX5_isHeardAsIn 62 = .ok (.ireturn, 1) := by decide +kernel
theorem dX5_isHeardAsIn_63 : decode cX5_isHeardAsIn 63 = .ok (.iinc 2 1, 3) := by decide +kernel
theorem dX5_isHeardAsIn_66 : decode cX5_isHeardAsIn 66 = .ok (.goto (-48), 3) := by decide +kernel
theorem dX5_isHeardAsIn_69 : decode cX5_isHeardAsIn 69 = .ok (.iconst 1, 1) := by decide +kernel
theorem dX5_isHeardAsIn_70 : decode cX5_isHeardAsIn 70 = .ok (.ireturn, 1) := by decide +kernel
theorem dX6_error_0 : decode cX6_error 0 = .ok (.aload_n 0, 1) := by decide +kernel
theorem dX6_error_1 : decode cX6_error 1 = .ok (.getfield 16, 3) := by decide +kernel
theorem dX6_error_4 : decode cX6_error 4 = .ok (.ldc 52, 2) := by decide +kernel
theorem dX6_error_6 : decode cX6_error 6 = .ok (.iload_n 1, 1) := by decide +kernel
theorem dX6_error_7 : decode cX6_error 7 = .ok (.isub, 1) := by decide +kernel
theorem dX6_error_8 : decode cX6_error 8 = .ok (.dup2, 1) := by decide +kernel
theorem dX6_error_9 : decode cX6_error 9 = .ok (.iaload, 1) := by decide +kernel
theorem dX6_error_10 : decode cX6_error 10 = .ok (.iconst 1, 1) := by decide +kernel
theorem dX6_error_11 : decode cX6_error 11 = .ok (.iadd, 1) := by decide +kernel
theorem dX6_error_12 : decode cX6_error 12 = .ok (.iastore, 1) := by decide +kernel
theorem dX6_error_13 : decode cX6_error 13 = .ok (.iload_n 1, 1) := by decide +kernel
theorem dX6_error_14 : decode cX6_error 14 = .ok (.ireturn, 1) := by decide +kernel
theorem dX6_in_0 : decode cX6_in 0 = .ok (.iload_n 0, 1) := by decide +kernel
theorem dX6_in_1 : decode cX6_in 1 = .ok (.iload_n 1, 1) := by decide +kernel
theorem dX6_in_2 : decode cX6_in 2 = .ok (.if_icmp .lt 12, 3) := by decide +kernel
theorem dX6_in_5 : decode cX6_in 5 = .ok (.iload_n 0, 1) := by decide +kernel
theorem dX6_in_6 : decode cX6_in 6 = .ok (.iload_n 2, 1) := by decide +kernel
theorem dX6_in_7 : decode cX6_in 7 = .ok (.if_icmp .gt 7, 3) := by decide +kernel
theorem dX6_in_10 : decode cX6_in 10 = .ok (.iconst 1, 1) := by decide +kernel
theorem dX6_in_11 : decode cX6_in 11 = .ok (.goto 4, 3) := by decide +kernel
theorem dX6_in_14 : decode cX6_in 14 = .ok (.iconst 0, 1) := by decide +kernel
theorem dX6_in_15 : decode cX6_in 15 = .ok (.ireturn, 1) := by decide +kernel
theorem dX6_held_0 : decode cX6_held 0 = .ok (.iload_n 0, 1) := by decide +kernel
theorem dX6_held_1 : decode cX6_held 1 = .ok (.iload_n 1, 1) := by decide +kernel
theorem dX6_held_2 : decode cX6_held 2 = .ok (.if_icmp .ge 7, 3) := by decide +kernel
theorem dX6_held_5 : decode cX6_held 5 = .ok (.iload_n 1, 1) := by decide +kernel
theorem dX6_held_6 : decode cX6_held 6 = .ok (.goto 13, 3) := by decide +kernel
theorem dX6_held_9 : decode cX6_held 9 = .ok (.iload_n 0, 1) := by decide +kernel
theorem dX6_held_10 : decode cX6_held 10 = .ok (.iload_n 2, 1) := by decide +kernel
theorem dX6_held_11 : decode cX6_held 11 = .ok (.if_icmp .le 7, 3) := by decide +kernel
theorem dX6_held_14 : decode cX6_held 14 = .ok (.iload_n 2, 1) := by decide +kernel
theorem dX6_held_15 : decode cX6_held 15 = .ok (.goto 4, 3) := by decide +kernel
theorem dX6_held_18 : decode cX6_held 18 = .ok (.iload_n 0, 1) := by decide +kernel
theorem dX6_held_19 : decode cX6_held 19 = .ok (.ireturn, 1) := by decide +kernel
theorem dX6_copyAll_0 : decode cX6_copyAll 0 = .ok (.iconst 0, 1) := by decide +kernel
theorem dX6_copyAll_1 : decode cX6_copyAll 1 = .ok (.istore_n 2, 1) := by decide +kernel
theorem dX6_copyAll_2 : decode cX6_copyAll 2 = .ok (.iload_n 2, 1) := by decide +kernel
theorem dX6_copyAll_3 : decode cX6_copyAll 3 = .ok (.sipush 401, 3) := by decide +kernel
theorem dX6_copyAll_6 : decode cX6_copyAll 6 = .ok (.if_icmp .ge 15, 3) := by decide +kernel
theorem dX6_copyAll_9 : decode cX6_copyAll 9 = .ok (.aload_n 1, 1) := by decide +kernel
theorem dX6_copyAll_10 : decode cX6_copyAll 10 = .ok (.iload_n 2, 1) := by decide +kernel
theorem dX6_copyAll_11 : decode cX6_copyAll 11 = .ok (.aload_n 0, 1) := by decide +kernel
theorem dX6_copyAll_12 : decode cX6_copyAll 12 = .ok (.iload_n 2, 1) := by decide +kernel
theorem dX6_copyAll_13 : decode cX6_copyAll 13 = .ok (.iaload, 1) := by decide +kernel
theorem dX6_copyAll_14 : decode cX6_copyAll 14 = .ok (.iastore, 1) := by decide +kernel
theorem dX6_copyAll_15 : decode cX6_copyAll 15 = .ok (.iinc 2 1, 3) := by decide +kernel
theorem dX6_copyAll_18 : decode cX6_copyAll 18 = .ok (.goto (-16), 3) := by decide +kernel
theorem dX6_copyAll_21 : decode cX6_copyAll 21 = .ok (.return_, 1) := by decide +kernel
theorem dX6_bits_0 : decode cX6_bits 0 = .ok (.iconst 0, 1) := by decide +kernel
theorem dX6_bits_1 : decode cX6_bits 1 = .ok (.istore_n 1, 1) := by decide +kernel
theorem dX6_bits_2 : decode cX6_bits 2 = .ok (.iload_n 0, 1) := by decide +kernel
theorem dX6_bits_3 : decode cX6_bits 3 = .ok (.istore_n 2, 1) := by decide +kernel
theorem dX6_bits_4 : decode cX6_bits 4 = .ok (.iload_n 2, 1) := by decide +kernel
theorem dX6_bits_5 : decode cX6_bits 5 = .ok (.ifCond .eq 15, 3) := by decide +kernel
theorem dX6_bits_8 : decode cX6_bits 8 = .ok (.iinc 1 1, 3) := by decide +kernel
theorem dX6_bits_11 : decode cX6_bits 11 = .ok (.iload_n 2, 1) := by decide +kernel
theorem dX6_bits_12 : decode cX6_bits 12 = .ok (.iload_n 2, 1) := by decide +kernel
theorem dX6_bits_13 : decode cX6_bits 13 = .ok (.iconst 1, 1) := by decide +kernel
theorem dX6_bits_14 : decode cX6_bits 14 = .ok (.isub, 1) := by decide +kernel
theorem dX6_bits_15 : decode cX6_bits 15 = .ok (.iand, 1) := by decide +kernel
theorem dX6_bits_16 : decode cX6_bits 16 = .ok (.istore_n 2, 1) := by decide +kernel
theorem dX6_bits_17 : decode cX6_bits 17 = .ok (.goto (-13), 3) := by decide +kernel
theorem dX6_bits_20 : decode cX6_bits 20 = .ok (.iload_n 1, 1) := by decide +kernel
theorem dX6_bits_21 : decode cX6_bits 21 = .ok (.ireturn, 1) := by decide +kernel
theorem dX6_isFountain_0 : decode cX6_isFountain 0 = .ok (.iload_n 1, 1) := by decide +kernel
theorem dX6_isFountain_1 : decode cX6_isFountain 1 = .ok (.iconst 0, 1) := by decide +kernel
theorem dX6_isFountain_2 : decode cX6_isFountain 2 = .ok (.aload_n 0, 1) := by decide +kernel
theorem dX6_isFountain_3 : decode cX6_isFountain 3 = .ok (.getfield 9, 3) := by decide +kernel
theorem dX6_isFountain_6 : decode cX6_isFountain 6 = .ok (.iconst 2, 1) := by decide +kernel
theorem dX6_isFountain_7 : decode cX6_isFountain 7 = .ok (.iaload, 1) := by decide +kernel
theorem dX6_isFountain_8 : decode cX6_isFountain 8 = .ok (.iconst 1, 1) := by decide +kernel
theorem dX6_isFountain_9 : decode cX6_isFountain 9 = .ok (.isub, 1) := by decide +kernel
theorem dX6_isFountain_10 : decode cX6_isFountain 10 = .ok (.invokestatic 53, 3) := by decide +kernel
theorem dX6_isFountain_13 : decode cX6_isFountain 13 = .ok (.ireturn, 1) := by decide +kernel
theorem dX6_isPipe_0 : decode cX6_isPipe 0 = .ok (.iload_n 1, 1) := by decide +kernel
theorem dX6_isPipe_1 : decode cX6_isPipe 1 = .ok (.iconst 0, 1) := by decide +kernel
theorem dX6_isPipe_2 : decode cX6_isPipe 2 = .ok (.aload_n 0, 1) := by decide +kernel
theorem dX6_isPipe_3 : decode cX6_isPipe 3 = .ok (.getfield 9, 3) := by decide +kernel
theorem dX6_isPipe_6 : decode cX6_isPipe 6 = .ok (.iconst 3, 1) := by decide +kernel
theorem dX6_isPipe_7 : decode cX6_isPipe 7 = .ok (.iaload, 1) := by decide +kernel
theorem dX6_isPipe_8 : decode cX6_isPipe 8 = .ok (.iconst 1, 1) := by decide +kernel
theorem dX6_isPipe_9 : decode cX6_isPipe 9 = .ok (.isub, 1) := by decide +kernel
theorem dX6_isPipe_10 : decode cX6_isPipe 10 = .ok (.invokestatic 53, 3) := by decide +kernel
theorem dX6_isPipe_13 : decode cX6_isPipe 13 = .ok (.ireturn, 1) := by decide +kernel
theorem dX6_isSize_0 : decode cX6_isSize 0 = .ok (.iload_n 0, 1) := by decide +kernel
theorem dX6_isSize_1 : decode cX6_isSize 1 = .ok (.iconst 1, 1) := by decide +kernel
theorem dX6_isSize_2 : decode cX6_isSize 2 = .ok (.bipush 99, 2) := by decide +kernel
theorem dX6_isSize_4 : decode cX6_isSize 4 = .ok (.invokestatic 53, 3) := by decide +kernel
theorem dX6_isSize_7 : decode cX6_isSize 7 = .ok (.ireturn, 1) := by decide +kernel
theorem dX6_becomes_0 : decode cX6_becomes 0 = .ok (.aload_n 0, 1) := by decide +kernel
theorem dX6_becomes_1 : decode cX6_becomes 1 = .ok (.getfield 9, 3) := by decide +kernel
theorem dX6_becomes_4 : decode cX6_becomes 4 = .ok (.iload_n 1, 1) := by decide +kernel
theorem dX6_becomes_5 : decode cX6_becomes 5 = .ok (.iaload, 1) := by decide +kernel
theorem dX6_becomes_6 : decode cX6_becomes 6 = .ok (.istore_n 3, 1) := by decide +kernel
theorem dX6_becomes_7 : decode cX6_becomes 7 = .ok (.aload_n 0, 1) := by decide +kernel
theorem dX6_becomes_8 : decode cX6_becomes 8 = .ok (.getfield 9, 3) := by decide +kernel
theorem dX6_becomes_11 : decode cX6_becomes 11 = .ok (.iload_n 1, 1) := by decide +kernel
theorem dX6_becomes_12 : decode cX6_becomes 12 = .ok (.iload_n 2, 1) := by decide +kernel
theorem dX6_becomes_13 : decode cX6_becomes 13 = .ok (.iastore, 1) := by decide +kernel
theorem dX6_becomes_14 : decode cX6_becomes 14 = .ok (.iload_n 3, 1) := by decide +kernel
theorem dX6_becomes_15 : decode cX6_becomes 15 = .ok (.ireturn, 1) := by decide +kernel
theorem dX6_of_0 : decode cX6_of 0 = .ok (.aload_n 0, 1) := by decide +kernel
theorem dX6_of_1 : decode cX6_of 1 = .ok (.getfield 9, 3) := by decide +kernel
theorem dX6_of_4 : decode cX6_of 4 = .ok (.bipush 7, 2) := by decide +kernel
theorem dX6_of_6 : decode cX6_of 6 = .ok (.iconst 4, 1) := by decide +kernel
theorem dX6_of_7 : decode cX6_of 7 = .ok (.iload_n 1, 1) := by decide +kernel
theorem dX6_of_8 : decode cX6_of 8 = .ok (.imul, 1) := by decide +kernel
theorem dX6_of_9 : decode cX6_of 9 = .ok (.iadd, 1) := by decide +kernel
theorem dX6_of_10 : decode cX6_of 10 = .ok (.iload_n 2, 1) := by decide +kernel
theorem dX6_of_11 : decode cX6_of 11 = .ok (.iadd, 1) := by decide +kernel
theorem dX6_of_12 : decode cX6_of 12 = .ok (.iaload, 1) := by decide +kernel
theorem dX6_of_13 : decode cX6_of 13 = .ok (.ireturn, 1) := by decide +kernel
theorem dX6_about_0 : decode cX6_about 0 = .ok (.aload_n 0, 1) := by decide +kernel
theorem dX6_about_1 : decode cX6_about 1 = .ok (.getfield 9, 3) := by decide +kernel
theorem dX6_about_4 : decode cX6_about 4 = .ok (.bipush 39, 2) := by decide +kernel
theorem dX6_about_6 : decode cX6_about 6 = .ok (.iconst 4, 1) := by decide +kernel
theorem dX6_about_7 : decode cX6_about 7 = .ok (.iload_n 1, 1) := by decide +kernel
theorem dX6_about_8 : decode cX6_about 8 = .ok (.imul, 1) := by decide +kernel
theorem dX6_about_9 : decode cX6_about 9 = .ok (.iadd, 1) := by decide +kernel
theorem dX6_about_10 : decode cX6_about 10 = .ok (.iload_n 2, 1) := by decide +kernel
theorem dX6_about_11 : decode cX6_about 11 = .ok (.iadd, 1) := by decide +kernel
theorem dX6_about_12 : decode cX6_about 12 = .ok (.iaload, 1) := by decide +kernel
theorem dX6_about_13 : decode cX6_about 13 = .ok (.ireturn, 1) := by decide +kernel
theorem dX6_addsOf_0 : decode cX6_addsOf 0 = .ok (.aload_n 0, 1) := by decide +kernel
theorem dX6_addsOf_1 : decode cX6_addsOf 1 = .ok (.iload_n 1, 1) := by decide +kernel
theorem dX6_addsOf_2 : decode cX6_addsOf 2 = .ok (.iconst 1, 1) := by decide +kernel
theorem dX6_addsOf_3 : decode cX6_addsOf 3 = .ok (.invokevirtual 57, 3) := by decide +kernel
theorem dX6_addsOf_6 : decode cX6_addsOf 6 = .ok (.istore_n 3, 1) := by decide +kernel
theorem dX6_addsOf_7 : decode cX6_addsOf 7 = .ok (.iload_n 2, 1) := by decide +kernel
theorem dX6_addsOf_8 : decode cX6_addsOf 8 = .ok (.iconst 1, 1) := by decide +kernel
theorem dX6_addsOf_9 : decode cX6_addsOf 9 = .ok (.iadd, 1) := by decide +kernel
theorem dX6_addsOf_10 : decode cX6_addsOf 10 = .ok (.istore 4, 2) := by decide +kernel
theorem dX6_addsOf_12 : decode cX6_addsOf 12 = .ok (.aload_n 0, 1) := by decide +kernel
theorem dX6_addsOf_13 : decode cX6_addsOf 13 = .ok (.iload_n 1, 1) := by decide +kernel
theorem dX6_addsOf_14 : decode cX6_addsOf 14 = .ok (.iconst 0, 1) := by decide +kernel
theorem dX6_addsOf_15 : decode cX6_addsOf 15 = .ok (.invokevirtual 57, 3) := by decide +kernel
theorem dX6_addsOf_18 : decode cX6_addsOf 18 = .ok (.tableswitch 84 1 6 #[38, 43, 84, 50, 62, 78], 38) := by decide +kernel
theorem dX6_addsOf_56 : decode cX6_addsOf 56 = .ok (.iload 4, 2) := by decide +kernel
theorem dX6_addsOf_58 : decode cX6_addsOf 58 = .ok (.iload_n 3, 1) := by decide +kernel
theorem dX6_addsOf_59 : decode cX6_addsOf 59 = .ok (.iadd, 1) := by decide +kernel
theorem dX6_addsOf_60 : decode cX6_addsOf 60 = .ok (.ireturn, 1) := by decide +kernel
theorem dX6_addsOf_61 : decode cX6_addsOf 61 = .ok (.iconst 2, 1) := by decide +kernel
theorem dX6_addsOf_62 : decode cX6_addsOf 62 = .ok (.iload 4, 2) := by decide +kernel
theorem dX6_addsOf_64 : decode cX6_addsOf 64 = .ok (.imul, 1) := by decide +kernel
theorem dX6_addsOf_65 : decode cX6_addsOf 65 = .ok (.iload_n 3, 1) := by decide +kernel
theorem dX6_addsOf_66 : decode cX6_addsOf 66 = .ok (.isub, 1) := by decide +kernel
theorem dX6_addsOf_67 : decode cX6_addsOf 67 = .ok (.ireturn, 1) := by decide +kernel
theorem dX6_addsOf_68 : decode cX6_addsOf 68 = .ok (.iload 4, 2) := by decide +kernel
theorem dX6_addsOf_70 : decode cX6_addsOf 70 = .ok (.iload_n 3, 1) := by decide +kernel
theorem dX6_addsOf_71 : decode cX6_addsOf 71 = .ok (.iadd, 1) := by decide +kernel
theorem dX6_addsOf_72 : decode cX6_addsOf 72 = .ok (.aload_n 0, 1) := by decide +kernel
theorem dX6_addsOf_73 : decode cX6_addsOf 73 = .ok (.iload_n 1, 1) := by decide +kernel
theorem dX6_addsOf_74 : decode cX6_addsOf 74 = .ok (.iconst 2, 1) := by decide +kernel
theorem dX6_addsOf_75 : decode cX6_addsOf 75 = .ok (.invokevirtual 57, 3) := by decide +kernel
theorem dX6_addsOf_78 : decode cX6_addsOf 78 = .ok (.iadd, 1) := by decide +kernel
theorem dX6_addsOf_79 : decode cX6_addsOf 79 = .ok (.ireturn, 1) := by decide +kernel
theorem dX6_addsOf_80 : decode cX6_addsOf 80 = .ok (.iconst 2, 1) := by decide +kernel
theorem dX6_addsOf_81 : decode cX6_addsOf 81 = .ok (.iload 4, 2) := by decide +kernel
theorem dX6_addsOf_83 : decode cX6_addsOf 83 = .ok (.imul, 1) := by decide +kernel
theorem dX6_addsOf_84 : decode cX6_addsOf 84 = .ok (.iload_n 3, 1) := by decide +kernel
theorem dX6_addsOf_85 : decode cX6_addsOf 85 = .ok (.isub, 1) := by decide +kernel
theorem dX6_addsOf_86 : decode cX6_addsOf 86 = .ok (.aload_n 0, 1) := by decide +kernel
theorem dX6_addsOf_87 : decode cX6_addsOf 87 = .ok (.iload_n 1, 1) := by decide +kernel
theorem dX6_addsOf_88 : decode cX6_addsOf 88 = .ok (.iconst 3, 1) := by decide +kernel
theorem dX6_addsOf_89 : decode cX6_addsOf 89 = .ok (.invokevirtual 57, 3) := by decide +kernel
theorem dX6_addsOf_92 : decode cX6_addsOf 92 = .ok (.iconst 5, 1) := by decide +kernel
theorem dX6_addsOf_93 : decode cX6_addsOf 93 = .ok (.irem, 1) := by decide +kernel
theorem dX6_addsOf_94 : decode cX6_addsOf 94 = .ok (.iadd, 1) := by decide +kernel
theorem dX6_addsOf_95 : decode cX6_addsOf 95 = .ok (.ireturn, 1) := by decide +kernel
theorem dX6_addsOf_96 : decode cX6_addsOf 96 = .ok (.iconst 1, 1) := by decide +kernel
theorem dX6_addsOf_97 : decode cX6_addsOf 97 = .ok (.iload_n 3, 1) := by decide +kernel
theorem dX6_addsOf_98 : decode cX6_addsOf 98 = .ok (.iconst 3, 1) := by decide +kernel
theorem dX6_addsOf_99 : decode cX6_addsOf 99 = .ok (.irem, 1) := by decide +kernel
theorem dX6_addsOf_100 : decode cX6_addsOf 100 = .ok (.iadd, 1) := by decide +kernel
theorem dX6_addsOf_101 : decode cX6_addsOf 101 = .ok (.ireturn, 1) := by decide +kernel
theorem dX6_addsOf_102 : decode cX6_addsOf 102 = .ok (.iload 4, 2) := by decide +kernel
theorem dX6_addsOf_104 : decode cX6_addsOf 104 = .ok (.ireturn, 1) := by decide +kernel
theorem dX6_saidOf_0 : decode cX6_saidOf 0 = .ok (.aload_n 0, 1) := by decide +kernel
theorem dX6_saidOf_1 : decode cX6_saidOf 1 = .ok (.iconst 0, 1) := by decide +kernel
theorem dX6_saidOf_2 : decode cX6_saidOf 2 = .ok (.aload_n 0, 1) := by decide +kernel
theorem dX6_saidOf_3 : decode cX6_saidOf 3 = .ok (.iload_n 1, 1) := by decide +kernel
theorem dX6_saidOf_4 : decode cX6_saidOf 4 = .ok (.iload_n 2, 1) := by decide +kernel
theorem dX6_saidOf_5 : decode cX6_saidOf 5 = .ok (.invokevirtual 61, 3) := by decide +kernel
theorem dX6_saidOf_8 : decode cX6_saidOf 8 = .ok (.aload_n 0, 1) := by decide +kernel
theorem dX6_saidOf_9 : decode cX6_saidOf 9 = .ok (.iload_n 1, 1) := by decide +kernel
theorem dX6_saidOf_10 : decode cX6_saidOf 10 = .ok (.iconst 2, 1) := by decide +kernel
theorem dX6_saidOf_11 : decode cX6_saidOf 11 = .ok (.invokevirtual 57, 3) := by decide +kernel
theorem dX6_saidOf_14 : decode cX6_saidOf 14 = .ok (.aload_n 0, 1) := by decide +kernel
theorem dX6_saidOf_15 : decode cX6_saidOf 15 = .ok (.iload_n 1, 1) := by decide +kernel
theorem dX6_saidOf_16 : decode cX6_saidOf 16 = .ok (.iconst 0, 1) := by decide +kernel
theorem dX6_saidOf_17 : decode cX6_saidOf 17 = .ok (.invokevirtual 57, 3) := by decide +kernel
theorem dX6_saidOf_20 : decode cX6_saidOf 20 = .ok (.invokevirtual 64, 3) := by decide +kernel
theorem dX6_saidOf_23 : decode cX6_saidOf 23 = .ok (.ireturn, 1) := by decide +kernel
theorem dX6_doesSayOn_0 : decode cX6_doesSayOn 0 = .ok (.aload_n 0, 1) := by decide +kernel
theorem dX6_doesSayOn_1 : decode cX6_doesSayOn 1 = .ok (.iload_n 1, 1) := by decide +kernel
theorem dX6_doesSayOn_2 : decode cX6_doesSayOn 2 = .ok (.iconst 1, 1) := by decide +kernel
theorem dX6_doesSayOn_3 : decode cX6_doesSayOn 3 = .ok (.invokevirtual 57, 3) := by decide +kernel
theorem dX6_doesSayOn_6 : decode cX6_doesSayOn 6 = .ok (.istore_n 3, 1) := by decide +kernel
theorem dX6_doesSayOn_7 : decode cX6_doesSayOn 7 = .ok (.aload_n 0, 1) := by decide +kernel
theorem dX6_doesSayOn_8 : decode cX6_doesSayOn 8 = .ok (.iload_n 1, 1) := by decide +kernel
theorem dX6_doesSayOn_9 : decode cX6_doesSayOn 9 = .ok (.iconst 0, 1) := by decide +kernel
theorem dX6_doesSayOn_10 : decode cX6_doesSayOn 10 = .ok (.invokevirtual 57, 3) := by decide +kernel
theorem dX6_doesSayOn_13 : decode cX6_doesSayOn 13 = .ok (.tableswitch 122 1 6 #[39, 122, 55, 69, 91, 105], 39) := by decide +kernel
theorem dX6_doesSayOn_52 : decode cX6_doesSayOn 52 = .ok (.iload_n 2, 1) := by decide +kernel
theorem dX6_doesSayOn_53 : decode cX6_doesSayOn 53 = .ok (.aload_n 0, 1) := by decide +kernel
theorem dX6_doesSayOn_54 : decode cX6_doesSayOn 54 = .ok (.getfield 9, 3) := by decide +kernel
theorem dX6_doesSayOn_57 : decode cX6_doesSayOn 57 = .ok (.iconst 4, 1) := by decide +kernel
theorem dX6_doesSayOn_58 : decode cX6_doesSayOn 58 = .ok (.iaload, 1) := by decide +kernel
theorem dX6_doesSayOn_59 : decode cX6_doesSayOn 59 = .ok (.if_icmp .le 7, 3) := by decide +kernel
theorem dX6_doesSayOn_62 : decode cX6_doesSayOn 62 = .ok (.iconst 1, 1) := by decide +kernel
theorem dX6_doesSayOn_63 : decode cX6_doesSayOn 63 = .ok (.goto 4, 3) := by decide +kernel
theorem dX6_doesSayOn_66 : decode cX6_doesSayOn 66 = .ok (.iconst 0, 1) := by decide +kernel
theorem dX6_doesSayOn_67 : decode cX6_doesSayOn 67 = .ok (.ireturn, 1) := by decide +kernel
theorem dX6_doesSayOn_68 : decode cX6_doesSayOn 68 = .ok (.iload_n 2, 1) := by decide +kernel
theorem dX6_doesSayOn_69 : decode cX6_doesSayOn 69 = .ok (.iload_n 3, 1) := by decide +kernel
theorem dX6_doesSayOn_70 : decode cX6_doesSayOn 70 = .ok (.iconst 2, 1) := by decide +kernel
theorem dX6_doesSayOn_71 : decode cX6_doesSayOn 71 = .ok (.iadd, 1) := by decide +kernel
theorem dX6_doesSayOn_72 : decode cX6_doesSayOn 72 = .ok (.irem, 1) := by decide +kernel
theorem dX6_doesSayOn_73 : decode cX6_doesSayOn 73 = .ok (.ifCond .eq 7, 3) := by decide +kernel
theorem dX6_doesSayOn_76 : decode cX6_doesSayOn 76 = .ok (.iconst 1, 1) := by decide +kernel
theorem dX6_doesSayOn_77 : decode cX6_doesSayOn 77 = .ok (.goto 4, 3) := by decide +kernel
theorem dX6_doesSayOn_80 : decode cX6_doesSayOn 80 = .ok (.iconst 0, 1) := by decide +kernel
theorem dX6_doesSayOn_81 : decode cX6_doesSayOn 81 = .ok (.ireturn, 1) := by decide +kernel
theorem dX6_doesSayOn_82 : decode cX6_doesSayOn 82 = .ok (.iload_n 2, 1) := by decide +kernel
theorem dX6_doesSayOn_83 : decode cX6_doesSayOn 83 = .ok (.aload_n 0, 1) := by decide +kernel
theorem dX6_doesSayOn_84 : decode cX6_doesSayOn 84 = .ok (.getfield 9, 3) := by decide +kernel
theorem dX6_doesSayOn_87 : decode cX6_doesSayOn 87 = .ok (.iconst 4, 1) := by decide +kernel
theorem dX6_doesSayOn_88 : decode cX6_doesSayOn 88 = .ok (.iaload, 1) := by decide +kernel
theorem dX6_doesSayOn_89 : decode cX6_doesSayOn 89 = .ok (.if_icmp .gt 9, 3) := by decide +kernel
theorem dX6_doesSayOn_92 : decode cX6_doesSayOn 92 = .ok (.iload_n 3, 1) := by decide +kernel
theorem dX6_doesSayOn_93 : decode cX6_doesSayOn 93 = .ok (.bipush 6, 2) := by decide +kernel
theorem dX6_doesSayOn_95 : decode cX6_doesSayOn 95 = .ok (.if_icmp .le 7, 3) := by decide +kernel
theorem dX6_doesSayOn_98 : decode cX6_doesSayOn 98 = .ok (.iconst 1, 1) := by decide +kernel
theorem dX6_doesSayOn_99 : decode cX6_doesSayOn 99 = .ok (.goto 4, 3) := by decide +kernel
theorem dX6_doesSayOn_102 : decode cX6_doesSayOn 102 = .ok (.iconst 0, 1) := by decide +kernel
theorem dX6_doesSayOn_103 : decode cX6_doesSayOn 103 = .ok (.ireturn, 1) := by decide +kernel
theorem dX6_doesSayOn_104 : decode cX6_doesSayOn 104 = .ok (.iload_n 2, 1) := by decide +kernel
theorem dX6_doesSayOn_105 : decode cX6_doesSayOn 105 = .ok (.bipush 60, 2) := by decide +kernel
theorem dX6_doesSayOn_107 : decode cX6_doesSayOn 107 = .ok (.iload_n 3, 1) := by decide +kernel
theorem dX6_doesSayOn_108 : decode cX6_doesSayOn 108 = .ok (.iadd, 1) := by decide +kernel
theorem dX6_doesSayOn_109 : decode cX6_doesSayOn 109 = .ok (.if_icmp .ge 7, 3) := by decide +kernel
theorem dX6_doesSayOn_112 : decode cX6_doesSayOn 112 = .ok (.iconst 1, 1) := by decide +kernel
theorem dX6_doesSayOn_113 : decode cX6_doesSayOn 113 = .ok (.goto 4, 3) := by decide +kernel
theorem dX6_doesSayOn_116 : decode cX6_doesSayOn 116 = .ok (.iconst 0, 1) := by decide +kernel
theorem dX6_doesSayOn_117 : decode cX6_doesSayOn 117 = .ok (.ireturn, 1) := by decide +kernel
theorem dX6_doesSayOn_118 : decode cX6_doesSayOn 118 = .ok (.aload_n 0, 1) := by decide +kernel
theorem dX6_doesSayOn_119 : decode cX6_doesSayOn 119 = .ok (.getfield 9, 3) := by decide +kernel
theorem dX6_doesSayOn_122 : decode cX6_doesSayOn 122 = .ok (.iconst 4, 1) := by decide +kernel
theorem dX6_doesSayOn_123 : decode cX6_doesSayOn 123 = .ok (.iaload, 1) := by decide +kernel
theorem dX6_doesSayOn_124 : decode cX6_doesSayOn 124 = .ok (.bipush 8, 2) := by decide +kernel
theorem dX6_doesSayOn_126 : decode cX6_doesSayOn 126 = .ok (.if_icmp .ge 7, 3) := by decide +kernel
theorem dX6_doesSayOn_129 : decode cX6_doesSayOn 129 = .ok (.iconst 1, 1) := by decide +kernel
theorem dX6_doesSayOn_130 : decode cX6_doesSayOn 130 = .ok (.goto 4, 3) := by decide +kernel
theorem dX6_doesSayOn_133 : decode cX6_doesSayOn 133 = .ok (.iconst 0, 1) := by decide +kernel
theorem dX6_doesSayOn_134 : decode cX6_doesSayOn 134 = .ok (.ireturn, 1) := by decide +kernel
theorem dX6_doesSayOn_135 : decode cX6_doesSayOn 135 = .ok (.iconst 1, 1) := by decide +kernel
theorem dX6_doesSayOn_136 : decode cX6_doesSayOn 136 = .ok (.ireturn, 1) := by decide +kernel
theorem dX6_slowOf_0 : decode cX6_slowOf 0 = .ok (.aload_n 0, 1) := by decide +kernel
theorem dX6_slowOf_1 : decode cX6_slowOf 1 = .ok (.aload_n 0, 1) := by decide +kernel
theorem dX6_slowOf_2 : decode cX6_slowOf 2 = .ok (.iload_n 1, 1) := by decide +kernel
theorem dX6_slowOf_3 : decode cX6_slowOf 3 = .ok (.iconst 0, 1) := by decide +kernel
theorem dX6_slowOf_4 : decode cX6_slowOf 4 = .ok (.invokevirtual 68, 3) := by decide +kernel
theorem dX6_slowOf_7 : decode cX6_slowOf 7 = .ok (.iconst 2, 1) := by decide +kernel
theorem dX6_slowOf_8 : decode cX6_slowOf 8 = .ok (.invokevirtual 57, 3) := by decide +kernel
theorem dX6_slowOf_11 : decode cX6_slowOf 11 = .ok (.aload_n 0, 1) := by decide +kernel
theorem dX6_slowOf_12 : decode cX6_slowOf 12 = .ok (.aload_n 0, 1) := by decide +kernel
theorem dX6_slowOf_13 : decode cX6_slowOf 13 = .ok (.iload_n 1, 1) := by decide +kernel
theorem dX6_slowOf_14 : decode cX6_slowOf 14 = .ok (.iconst 1, 1) := by decide +kernel
theorem dX6_slowOf_15 : decode cX6_slowOf 15 = .ok (.invokevirtual 68, 3) := by decide +kernel
theorem dX6_slowOf_18 : decode cX6_slowOf 18 = .ok (.iconst 2, 1) := by decide +kernel
theorem dX6_slowOf_19 : decode cX6_slowOf 19 = .ok (.invokevirtual 57, 3) := by decide +kernel
theorem dX6_slowOf_22 : decode cX6_slowOf 22 = .ok (.isub, 1) := by decide +kernel
theorem dX6_slowOf_23 : decode cX6_slowOf 23 = .ok (.istore_n 2, 1) := by decide +kernel
theorem dX6_slowOf_24 : decode cX6_slowOf 24 = .ok (.aload_n 0, 1) := by decide +kernel
theorem dX6_slowOf_25 : decode cX6_slowOf 25 = .ok (.iconst 1, 1) := by decide +kernel
theorem dX6_slowOf_26 : decode cX6_slowOf 26 = .ok (.aload_n 0, 1) := by decide +kernel
theorem dX6_slowOf_27 : decode cX6_slowOf 27 = .ok (.iload_n 1, 1) := by decide +kernel
theorem dX6_slowOf_28 : decode cX6_slowOf 28 = .ok (.iconst 2, 1) := by decide +kernel
theorem dX6_slowOf_29 : decode cX6_slowOf 29 = .ok (.invokevirtual 68, 3) := by decide +kernel
theorem dX6_slowOf_32 : decode cX6_slowOf 32 = .ok (.aload_n 0, 1) := by decide +kernel
theorem dX6_slowOf_33 : decode cX6_slowOf 33 = .ok (.getfield 9, 3) := by decide +kernel
theorem dX6_slowOf_36 : decode cX6_slowOf 36 = .ok (.iconst 4, 1) := by decide +kernel
theorem dX6_slowOf_37 : decode cX6_slowOf 37 = .ok (.iaload, 1) := by decide +kernel
theorem dX6_slowOf_38 : decode cX6_slowOf 38 = .ok (.iload_n 2, 1) := by decide +kernel
theorem dX6_slowOf_39 : decode cX6_slowOf 39 = .ok (.invokevirtual 64, 3) := by decide +kernel
theorem dX6_slowOf_42 : decode cX6_slowOf 42 = .ok (.ireturn, 1) := by decide +kernel
theorem dX6_isKm_0 : decode cX6_isKm 0 = .ok (.iload_n 0, 1) := by decide +kernel
theorem dX6_isKm_1 : decode cX6_isKm 1 = .ok (.iconst 0, 1) := by decide +kernel
theorem dX6_isKm_2 : decode cX6_isKm 2 = .ok (.bipush 69, 2) := by decide +kernel
theorem dX6_isKm_4 : decode cX6_isKm 4 = .ok (.invokestatic 53, 3) := by decide +kernel
theorem dX6_isKm_7 : decode cX6_isKm 7 = .ok (.ireturn, 1) := by decide +kernel
theorem dX6_fountain_0 : decode cX6_fountain 0 = .ok (.iload_n 1, 1) := by decide +kernel
theorem dX6_fountain_1 : decode cX6_fountain 1 = .ok (.invokestatic 71, 3) := by decide +kernel
theorem dX6_fountain_4 : decode cX6_fountain 4 = .ok (.ifCond .eq 13, 3) := by decide +kernel
theorem dX6_fountain_7 : decode cX6_fountain 7 = .ok (.iload_n 2, 1) := by decide +kernel
theorem dX6_fountain_8 : decode cX6_fountain 8 = .ok (.iconst 0, 1) := by decide +kernel
theorem dX6_fountain_9 : decode cX6_fountain 9 = .ok (.bipush 9, 2) := by decide +kernel
theorem dX6_fountain_11 : decode cX6_fountain 11 = .ok (.invokestatic 53, 3) := by decide +kernel
theorem dX6_fountain_14 : decode cX6_fountain 14 = .ok (.ifCond .ne 10, 3) := by decide +kernel
theorem dX6_fountain_17 : decode cX6_fountain 17 = .ok (.aload_n 0, 1) := by decide +kernel
theorem dX6_fountain_18 : decode cX6_fountain 18 = .ok (.ldc 75, 2) := by decide +kernel
theorem dX6_fountain_20 : decode cX6_fountain 20 = .ok (.invokevirtual 76, 3) := by decide +kernel
theorem dX6_fountain_23 : decode cX6_fountain 23 = .ok (.ireturn, 1) := by decide +kernel
theorem dX6_fountain_24 : decode cX6_fountain 24 = .ok (.aload_n 0, 1) := by decide +kernel
theorem dX6_fountain_25 : decode cX6_fountain 25 = .ok (.getfield 9, 3) := by decide +kernel
theorem dX6_fountain_28 : decode cX6_fountain 28 = .ok (.iconst 2, 1) := by decide +kernel
theorem dX6_fountain_29 : decode cX6_fountain 29 = .ok (.iaload, 1) := by decide +kernel
theorem dX6_fountain_30 : decode cX6_fountain 30 = .ok (.istore_n 3, 1) := by decide +kernel
theorem dX6_fountain_31 : decode cX6_fountain 31 = .ok (.iload_n 3, 1) := by decide +kernel
theorem dX6_fountain_32 : decode cX6_fountain 32 = .ok (.bipush 8, 2) := by decide +kernel
theorem dX6_fountain_34 : decode cX6_fountain 34 = .ok (.if_icmp .ne 10, 3) := by decide +kernel
theorem dX6_fountain_37 : decode cX6_fountain 37 = .ok (.aload_n 0, 1) := by decide +kernel
theorem dX6_fountain_38 : decode cX6_fountain 38 = .ok (.ldc 80, 2) := by decide +kernel
theorem dX6_fountain_40 : decode cX6_fountain 40 = .ok (.invokevirtual 76, 3) := by decide +kernel
theorem dX6_fountain_43 : decode cX6_fountain 43 = .ok (.ireturn, 1) := by decide +kernel
theorem dX6_fountain_44 : decode cX6_fountain 44 = .ok (.aload_n 0, 1) := by decide +kernel
theorem dX6_fountain_45 : decode cX6_fountain 45 = .ok (.getfield 9, 3) := by decide +kernel
theorem dX6_fountain_48 : decode cX6_fountain 48 = .ok (.iconst 2, 1) := by decide +kernel
theorem dX6_fountain_49 : decode cX6_fountain 49 = .ok (.dup2, 1) := by decide +kernel
theorem dX6_fountain_50 : decode cX6_fountain 50 = .ok (.iaload, 1) := by decide +kernel
theorem dX6_fountain_51 : decode cX6_fountain 51 = .ok (.iconst 1, 1) := by decide +kernel
theorem dX6_fountain_52 : decode cX6_fountain 52 = .ok (.iadd, 1) := by decide +kernel
theorem dX6_fountain_53 : decode cX6_fountain 53 = .ok (.iastore, 1) := by decide +kernel
theorem dX6_fountain_54 : decode cX6_fountain 54 = .ok (.aload_n 0, 1) := by decide +kernel
theorem dX6_fountain_55 : decode cX6_fountain 55 = .ok (.getfield 9, 3) := by decide +kernel
theorem dX6_fountain_58 : decode cX6_fountain 58 = .ok (.bipush 7, 2) := by decide +kernel
theorem dX6_fountain_60 : decode cX6_fountain 60 = .ok (.iconst 4, 1) := by decide +kernel
theorem dX6_fountain_61 : decode cX6_fountain 61 = .ok (.iload_n 3, 1) := by decide +kernel
theorem dX6_fountain_62 : decode cX6_fountain 62 = .ok (.imul, 1) := by decide +kernel
theorem dX6_fountain_63 : decode cX6_fountain 63 = .ok (.iadd, 1) := by decide +kernel
theorem dX6_fountain_64 : decode cX6_fountain 64 = .ok (.iload_n 1, 1) := by decide +kernel
theorem dX6_fountain_65 : decode cX6_fountain 65 = .ok (.bipush 10, 2) := by decide +kernel
theorem dX6_fountain_67 : decode cX6_fountain 67 = .ok (.idiv, 1) := by decide +kernel
theorem dX6_fountain_68 : decode cX6_fountain 68 = .ok (.iastore, 1) := by decide +kernel
theorem dX6_fountain_69 : decode cX6_fountain 69 = .ok (.aload_n 0, 1) := by decide +kernel
theorem dX6_fountain_70 : decode cX6_fountain 70 = .ok (.getfield 9, 3) := by decide +kernel
theorem dX6_fountain_73 : decode cX6_fountain 73 = .ok (.bipush 7, 2) := by decide +kernel
theorem dX6_fountain_75 : decode cX6_fountain 75 = .ok (.iconst 4, 1) := by decide +kernel
theorem dX6_fountain_76 : decode cX6_fountain 76 = .ok (.iload_n 3, 1) := by decide +kernel
theorem dX6_fountain_77 : decode cX6_fountain 77 = .ok (.imul, 1) := by decide +kernel
theorem dX6_fountain_78 : decode cX6_fountain 78 = .ok (.iadd, 1) := by decide +kernel
theorem dX6_fountain_79 : decode cX6_fountain 79 = .ok (.iconst 1, 1) := by decide +kernel
theorem dX6_fountain_80 : decode cX6_fountain 80 = .ok (.iadd, 1) := by decide +kernel
theorem dX6_fountain_81 : decode cX6_fountain 81 = .ok (.iload_n 1, 1) := by decide +kernel
theorem dX6_fountain_82 : decode cX6_fountain 82 = .ok (.bipush 10, 2) := by decide +kernel
theorem dX6_fountain_84 : decode cX6_fountain 84 = .ok (.irem, 1) := by decide +kernel
theorem dX6_fountain_85 : decode cX6_fountain 85 = .ok (.iastore, 1) := by decide +kernel
theorem dX6_fountain_86 : decode cX6_fountain 86 = .ok (.aload_n 0, 1) := by decide +kernel
theorem dX6_fountain_87 : decode cX6_fountain 87 = .ok (.getfield 9, 3) := by decide +kernel
theorem dX6_fountain_90 : decode cX6_fountain 90 = .ok (.bipush 7, 2) := by decide +kernel
theorem dX6_fountain_92 : decode cX6_fountain 92 = .ok (.iconst 4, 1) := by decide +kernel
theorem dX6_fountain_93 : decode cX6_fountain 93 = .ok (.iload_n 3, 1) := by decide +kernel
theorem dX6_fountain_94 : decode cX6_fountain 94 = .ok (.imul, 1) := by decide +kernel
theorem dX6_fountain_95 : decode cX6_fountain 95 = .ok (.iadd, 1) := by decide +kernel
theorem dX6_fountain_96 : decode cX6_fountain 96 = .ok (.iconst 2, 1) := by decide +kernel
theorem dX6_fountain_97 : decode cX6_fountain 97 = .ok (.iadd, 1) := by decide +kernel
theorem dX6_fountain_98 : decode cX6_fountain 98 = .ok (.iload_n 2, 1) := by decide +kernel
theorem dX6_fountain_99 : decode cX6_fountain 99 = .ok (.iastore, 1) := by decide +kernel
theorem dX6_fountain_100 : decode cX6_fountain 100 = .ok (.aload_n 0, 1) := by decide +kernel
theorem dX6_fountain_101 : decode cX6_fountain 101 = .ok (.getfield 9, 3) := by decide +kernel
theorem dX6_fountain_104 : decode cX6_fountain 104 = .ok (.bipush 7, 2) := by decide +kernel
theorem dX6_fountain_106 : decode cX6_fountain 106 = .ok (.iconst 4, 1) := by decide +kernel
theorem dX6_fountain_107 : decode cX6_fountain 107 = .ok (.iload_n 3, 1) := by decide +kernel
theorem dX6_fountain_108 : decode cX6_fountain 108 = .ok (.imul, 1) := by decide +kernel
theorem dX6_fountain_109 : decode cX6_fountain 109 = .ok (.iadd, 1) := by decide +kernel
theorem dX6_fountain_110 : decode cX6_fountain 110 = .ok (.iconst 3, 1) := by decide +kernel
theorem dX6_fountain_111 : decode cX6_fountain 111 = .ok (.iadd, 1) := by decide +kernel
theorem dX6_fountain_112 : decode cX6_fountain 112 = .ok (.iconst 0, 1) := by decide +kernel
theorem dX6_fountain_113 : decode cX6_fountain 113 = .ok (.iastore, 1) := by decide +kernel
theorem dX6_fountain_114 : decode cX6_fountain 114 = .ok (.iload_n 3, 1) := by decide +kernel
theorem dX6_fountain_115 : decode cX6_fountain 115 = .ok (.ireturn, 1) := by decide +kernel
theorem dX6_fountainIs_0 : decode cX6_fountainIs 0 = .ok (.aload_n 0, 1) := by decide +kernel
theorem dX6_fountainIs_1 : decode cX6_fountainIs 1 = .ok (.iload_n 1, 1) := by decide +kernel
theorem dX6_fountainIs_2 : decode cX6_fountainIs 2 = .ok (.invokevirtual 81, 3) := by decide +kernel
theorem dX6_fountainIs_5 : decode cX6_fountainIs 5 = .ok (.ifCond .eq 21, 3) := by decide +kernel
theorem dX6_fountainIs_8 : decode cX6_fountainIs 8 = .ok (.iload_n 2, 1) := by decide +kernel
theorem dX6_fountainIs_9 : decode cX6_fountainIs 9 = .ok (.iconst 0, 1) := by decide +kernel
theorem dX6_fountainIs_10 : decode cX6_fountainIs 10 = .ok (.iconst 3, 1) := by decide +kernel
theorem dX6_fountainIs_11 : decode cX6_fountainIs 11 = .ok (.invokestatic 53, 3) := by decide +kernel
theorem dX6_fountainIs_14 : decode cX6_fountainIs 14 = .ok (.ifCond .eq 12, 3) := by decide +kernel
theorem dX6_fountainIs_17 : decode cX6_fountainIs 17 = .ok (.aload_n 0, 1) := by decide +kernel
theorem dX6_fountainIs_18 : decode cX6_fountainIs 18 = .ok (.iload_n 1, 1) := by decide +kernel
theorem dX6_fountainIs_19 : decode cX6_fountainIs 19 = .ok (.iload_n 2, 1) := by decide +kernel
theorem dX6_fountainIs_20 : decode cX6_fountainIs 20 = .ok (.invokevirtual 57, 3) := by decide +kernel
theorem dX6_fountainIs_23 : decode cX6_fountainIs 23 = .ok (.goto 9, 3) := by decide +kernel
theorem dX6_fountainIs_26 : decode cX6_fountainIs 26 = .ok (.aload_n 0, 1) := by decide +kernel
theorem dX6_fountainIs_27 : decode cX6_fountainIs 27 = .ok (.ldc 75, 2) := by decide +kernel
theorem dX6_fountainIs_29 : decode cX6_fountainIs 29 = .ok (.invokevirtual 76, 3) := by decide +kernel
theorem dX6_fountainIs_32 : decode cX6_fountainIs 32 = .ok (.ireturn, 1) := by decide +kernel
theorem dX6_become_0 : decode cX6_become 0 = .ok (.aload_n 0, 1) := by decide +kernel
theorem dX6_become_1 : decode cX6_become 1 = .ok (.iload_n 1, 1) := by decide +kernel
theorem dX6_become_2 : decode cX6_become 2 = .ok (.invokevirtual 81, 3) := by decide +kernel
theorem dX6_become_5 : decode cX6_become 5 = .ok (.ifCond .eq 10, 3) := by decide +kernel
theorem dX6_become_8 : decode cX6_become 8 = .ok (.iload_n 2, 1) := by decide +kernel
theorem dX6_become_9 : decode cX6_become 9 = .ok (.invokestatic 71, 3) := by decide +kernel
theorem dX6_become_12 : decode cX6_become 12 = .ok (.ifCond .ne 10, 3) := by decide +kernel
theorem dX6_become_15 : decode cX6_become 15 = .ok (.aload_n 0, 1) := by decide +kernel
theorem dX6_become_16 : decode cX6_become 16 = .ok (.ldc 75, 2) := by decide +kernel
theorem dX6_become_18 : decode cX6_become 18 = .ok (.invokevirtual 76, 3) := by decide +kernel
theorem dX6_become_21 : decode cX6_become 21 = .ok (.ireturn, 1) := by decide +kernel
theorem dX6_become_22 : decode cX6_become 22 = .ok (.aload_n 0, 1) := by decide +kernel
theorem dX6_become_23 : decode cX6_become 23 = .ok (.getfield 9, 3) := by decide +kernel
theorem dX6_become_26 : decode cX6_become 26 = .ok (.bipush 7, 2) := by decide +kernel
theorem dX6_become_28 : decode cX6_become 28 = .ok (.iconst 4, 1) := by decide +kernel
theorem dX6_become_29 : decode cX6_become 29 = .ok (.iload_n 1, 1) := by decide +kernel
theorem dX6_become_30 : decode cX6_become 30 = .ok (.imul, 1) := by decide +kernel
theorem dX6_become_31 : decode cX6_become 31 = .ok (.iadd, 1) := by decide +kernel
theorem dX6_become_32 : decode cX6_become 32 = .ok (.iconst 1, 1) := by decide +kernel
theorem dX6_become_33 : decode cX6_become 33 = .ok (.iadd, 1) := by decide +kernel
theorem dX6_become_34 : decode cX6_become 34 = .ok (.iload_n 2, 1) := by decide +kernel
theorem dX6_become_35 : decode cX6_become 35 = .ok (.bipush 10, 2) := by decide +kernel
theorem dX6_become_37 : decode cX6_become 37 = .ok (.irem, 1) := by decide +kernel
theorem dX6_become_38 : decode cX6_become 38 = .ok (.iastore, 1) := by decide +kernel
theorem dX6_become_39 : decode cX6_become 39 = .ok (.aload_n 0, 1) := by decide +kernel
theorem dX6_become_40 : decode cX6_become 40 = .ok (.bipush 7, 2) := by decide +kernel
theorem dX6_become_42 : decode cX6_become 42 = .ok (.iconst 4, 1) := by decide +kernel
theorem dX6_become_43 : decode cX6_become 43 = .ok (.iload_n 1, 1) := by decide +kernel
theorem dX6_become_44 : decode cX6_become 44 = .ok (.imul, 1) := by decide +kernel
theorem dX6_become_45 : decode cX6_become 45 = .ok (.iadd, 1) := by decide +kernel
theorem dX6_become_46 : decode cX6_become 46 = .ok (.iload_n 2, 1) := by decide +kernel
theorem dX6_become_47 : decode cX6_become 47 = .ok (.bipush 10, 2) := by decide +kernel
theorem dX6_become_49 : decode cX6_become 49 = .ok (.idiv, 1) := by decide +kernel
theorem dX6_become_50 : decode cX6_become 50 = .ok (.invokevirtual 84, 3) := by decide +kernel
theorem dX6_become_53 : decode cX6_become 53 = .ok (.ireturn, 1) := by decide +kernel
theorem dX6_as_0 : decode cX6_as 0 = .ok (.aload_n 0, 1) := by decide +kernel
theorem dX6_as_1 : decode cX6_as 1 = .ok (.iload_n 1, 1) := by decide +kernel
theorem dX6_as_2 : decode cX6_as 2 = .ok (.invokevirtual 81, 3) := by decide +kernel
theorem dX6_as_5 : decode cX6_as 5 = .ok (.ifCond .eq 13, 3) := by decide +kernel
theorem dX6_as_8 : decode cX6_as 8 = .ok (.iload_n 2, 1) := by decide +kernel
theorem dX6_as_9 : decode cX6_as 9 = .ok (.iconst 0, 1) := by decide +kernel
theorem dX6_as_10 : decode cX6_as 10 = .ok (.bipush 6, 2) := by decide +kernel
theorem dX6_as_12 : decode cX6_as 12 = .ok (.invokestatic 53, 3) := by decide +kernel
theorem dX6_as_15 : decode cX6_as 15 = .ok (.ifCond .ne 10, 3) := by decide +kernel
theorem dX6_as_18 : decode cX6_as 18 = .ok (.aload_n 0, 1) := by decide +kernel
theorem dX6_as_19 : decode cX6_as 19 = .ok (.ldc 75, 2) := by decide +kernel
theorem dX6_as_21 : decode cX6_as 21 = .ok (.invokevirtual 76, 3) := by decide +kernel
theorem dX6_as_24 : decode cX6_as 24 = .ok (.ireturn, 1) := by decide +kernel
theorem dX6_as_25 : decode cX6_as 25 = .ok (.aload_n 0, 1) := by decide +kernel
theorem dX6_as_26 : decode cX6_as 26 = .ok (.iload_n 1, 1) := by decide +kernel
theorem dX6_as_27 : decode cX6_as 27 = .ok (.iconst 0, 1) := by decide +kernel
theorem dX6_as_28 : decode cX6_as 28 = .ok (.invokevirtual 57, 3) := by decide +kernel
theorem dX6_as_31 : decode cX6_as 31 = .ok (.istore_n 3, 1) := by decide +kernel
theorem dX6_as_32 : decode cX6_as 32 = .ok (.iload_n 2, 1) := by decide +kernel
theorem dX6_as_33 : decode cX6_as 33 = .ok (.ifCond .eq 28, 3) := by decide +kernel
theorem dX6_as_36 : decode cX6_as 36 = .ok (.iload_n 2, 1) := by decide +kernel
theorem dX6_as_37 : decode cX6_as 37 = .ok (.iload_n 3, 1) := by decide +kernel
theorem dX6_as_38 : decode cX6_as 38 = .ok (.if_icmp .eq 23, 3) := by decide +kernel
theorem dX6_as_41 : decode cX6_as 41 = .ok (.iload_n 2, 1) := by decide +kernel
theorem dX6_as_42 : decode cX6_as 42 = .ok (.iconst 1, 1) := by decide +kernel
theorem dX6_as_43 : decode cX6_as 43 = .ok (.if_icmp .ne 8, 3) := by decide +kernel
theorem dX6_as_46 : decode cX6_as 46 = .ok (.iload_n 3, 1) := by decide +kernel
theorem dX6_as_47 : decode cX6_as 47 = .ok (.iconst 4, 1) := by decide +kernel
theorem dX6_as_48 : decode cX6_as 48 = .ok (.if_icmp .eq 13, 3) := by decide +kernel
theorem dX6_as_51 : decode cX6_as 51 = .ok (.iload_n 2, 1) := by decide +kernel
theorem dX6_as_52 : decode cX6_as 52 = .ok (.iconst 2, 1) := by decide +kernel
theorem dX6_as_53 : decode cX6_as 53 = .ok (.if_icmp .ne 12, 3) := by decide +kernel
theorem dX6_as_56 : decode cX6_as 56 = .ok (.iload_n 3, 1) := by decide +kernel
theorem dX6_as_57 : decode cX6_as 57 = .ok (.iconst 5, 1) := by decide +kernel
theorem dX6_as_58 : decode cX6_as 58 = .ok (.if_icmp .ne 7, 3) := by decide +kernel
theorem dX6_as_61 : decode cX6_as 61 = .ok (.iconst 1, 1) := by decide +kernel
theorem dX6_as_62 : decode cX6_as 62 = .ok (.goto 4, 3) := by decide +kernel
theorem dX6_as_65 : decode cX6_as 65 = .ok (.iconst 0, 1) := by decide +kernel
theorem dX6_as_66 : decode cX6_as 66 = .ok (.istore 4, 2) := by decide +kernel
theorem dX6_as_68 : decode cX6_as 68 = .ok (.iload 4, 2) := by decide +kernel
theorem dX6_as_70 : decode cX6_as 70 = .ok (.ifCond .eq 12, 3) := by decide +kernel
theorem dX6_as_73 : decode cX6_as 73 = .ok (.aload_n 0, 1) := by decide +kernel
theorem dX6_as_74 : decode cX6_as 74 = .ok (.iload_n 1, 1) := by decide +kernel
theorem dX6_as_75 : decode cX6_as 75 = .ok (.iconst 1, 1) := by decide +kernel
theorem dX6_as_76 : decode cX6_as 76 = .ok (.invokevirtual 57, 3) := by decide +kernel
theorem dX6_as_79 : decode cX6_as 79 = .ok (.goto 9, 3) := by decide +kernel
theorem dX6_as_82 : decode cX6_as 82 = .ok (.aload_n 0, 1) := by decide +kernel
theorem dX6_as_83 : decode cX6_as 83 = .ok (.ldc 87, 2) := by decide +kernel
theorem dX6_as_85 : decode cX6_as 85 = .ok (.invokevirtual 76, 3) := by decide +kernel
theorem dX6_as_88 : decode cX6_as 88 = .ok (.ireturn, 1) := by decide +kernel
theorem dX6_says_0 : decode cX6_says 0 = .ok (.aload_n 0, 1) := by decide +kernel
theorem dX6_says_1 : decode cX6_says 1 = .ok (.iload_n 1, 1) := by decide +kernel
theorem dX6_says_2 : decode cX6_says 2 = .ok (.invokevirtual 81, 3) := by decide +kernel
theorem dX6_says_5 : decode cX6_says 5 = .ok (.ifCond .eq 19, 3) := by decide +kernel
theorem dX6_says_8 : decode cX6_says 8 = .ok (.iload_n 2, 1) := by decide +kernel
theorem dX6_says_9 : decode cX6_says 9 = .ok (.invokestatic 88, 3) := by decide +kernel
theorem dX6_says_12 : decode cX6_says 12 = .ok (.ifCond .eq 12, 3) := by decide +kernel
theorem dX6_says_15 : decode cX6_says 15 = .ok (.aload_n 0, 1) := by decide +kernel
theorem dX6_says_16 : decode cX6_says 16 = .ok (.iload_n 1, 1) := by decide +kernel
theorem dX6_says_17 : decode cX6_says 17 = .ok (.iload_n 2, 1) := by decide +kernel
theorem dX6_says_18 : decode cX6_says 18 = .ok (.invokevirtual 91, 3) := by decide +kernel
theorem dX6_says_21 : decode cX6_says 21 = .ok (.goto 9, 3) := by decide +kernel
theorem dX6_says_24 : decode cX6_says 24 = .ok (.aload_n 0, 1) := by decide +kernel
theorem dX6_says_25 : decode cX6_says 25 = .ok (.ldc 75, 2) := by decide +kernel
theorem dX6_says_27 : decode cX6_says 27 = .ok (.invokevirtual 76, 3) := by decide +kernel
theorem dX6_says_30 : decode cX6_says 30 = .ok (.ireturn, 1) := by decide +kernel
theorem dX6_goesOn_0 : decode cX6_goesOn 0 = .ok (.aload_n 0, 1) := by decide +kernel
theorem dX6_goesOn_1 : decode cX6_goesOn 1 = .ok (.iload_n 1, 1) := by decide +kernel
theorem dX6_goesOn_2 : decode cX6_goesOn 2 = .ok (.invokevirtual 81, 3) := by decide +kernel
theorem dX6_goesOn_5 : decode cX6_goesOn 5 = .ok (.ifCond .eq 10, 3) := by decide +kernel
theorem dX6_goesOn_8 : decode cX6_goesOn 8 = .ok (.iload_n 2, 1) := by decide +kernel
theorem dX6_goesOn_9 : decode cX6_goesOn 9 = .ok (.invokestatic 88, 3) := by decide +kernel
theorem dX6_goesOn_12 : decode cX6_goesOn 12 = .ok (.ifCond .ne 10, 3) := by decide +kernel
theorem dX6_goesOn_15 : decode cX6_goesOn 15 = .ok (.aload_n 0, 1) := by decide +kernel
theorem dX6_goesOn_16 : decode cX6_goesOn 16 = .ok (.ldc 75, 2) := by decide +kernel
theorem dX6_goesOn_18 : decode cX6_goesOn 18 = .ok (.invokevirtual 76, 3) := by decide +kernel
theorem dX6_goesOn_21 : decode cX6_goesOn 21 = .ok (.ireturn, 1) := by decide +kernel
theorem dX6_goesOn_22 : decode cX6_goesOn 22 = .ok (.aload_n 0, 1) := by decide +kernel
theorem dX6_goesOn_23 : decode cX6_goesOn 23 = .ok (.iload_n 1, 1) := by decide +kernel
theorem dX6_goesOn_24 : decode cX6_goesOn 24 = .ok (.iload_n 2, 1) := by decide +kernel
theorem dX6_goesOn_25 : decode cX6_goesOn 25 = .ok (.invokevirtual 94, 3) := by decide +kernel
theorem dX6_goesOn_28 : decode cX6_goesOn 28 = .ok (.ifCond .eq 7, 3) := by decide +kernel
theorem dX6_goesOn_31 : decode cX6_goesOn 31 = .ok (.iconst 1, 1) := by decide +kernel
theorem dX6_goesOn_32 : decode cX6_goesOn 32 = .ok (.goto 4, 3) := by decide +kernel
theorem dX6_goesOn_35 : decode cX6_goesOn 35 = .ok (.iconst 0, 1) := by decide +kernel
theorem dX6_goesOn_36 : decode cX6_goesOn 36 = .ok (.ireturn, 1) := by decide +kernel
theorem dX6_pipe_0 : decode cX6_pipe 0 = .ok (.aload_n 0, 1) := by decide +kernel
theorem dX6_pipe_1 : decode cX6_pipe 1 = .ok (.iload_n 1, 1) := by decide +kernel
theorem dX6_pipe_2 : decode cX6_pipe 2 = .ok (.invokevirtual 81, 3) := by decide +kernel
theorem dX6_pipe_5 : decode cX6_pipe 5 = .ok (.ifCond .eq 21, 3) := by decide +kernel
theorem dX6_pipe_8 : decode cX6_pipe 8 = .ok (.aload_n 0, 1) := by decide +kernel
theorem dX6_pipe_9 : decode cX6_pipe 9 = .ok (.iload_n 2, 1) := by decide +kernel
theorem dX6_pipe_10 : decode cX6_pipe 10 = .ok (.invokevirtual 81, 3) := by decide +kernel
theorem dX6_pipe_13 : decode cX6_pipe 13 = .ok (.ifCond .eq 13, 3) := by decide +kernel
theorem dX6_pipe_16 : decode cX6_pipe 16 = .ok (.iload_n 3, 1) := by decide +kernel
theorem dX6_pipe_17 : decode cX6_pipe 17 = .ok (.iconst 1, 1) := by decide +kernel
theorem dX6_pipe_18 : decode cX6_pipe 18 = .ok (.bipush 9, 2) := by decide +kernel
theorem dX6_pipe_20 : decode cX6_pipe 20 = .ok (.invokestatic 53, 3) := by decide +kernel
theorem dX6_pipe_23 : decode cX6_pipe 23 = .ok (.ifCond .ne 10, 3) := by decide +kernel
theorem dX6_pipe_26 : decode cX6_pipe 26 = .ok (.aload_n 0, 1) := by decide +kernel
theorem dX6_pipe_27 : decode cX6_pipe 27 = .ok (.ldc 75, 2) := by decide +kernel
theorem dX6_pipe_29 : decode cX6_pipe 29 = .ok (.invokevirtual 76, 3) := by decide +kernel
theorem dX6_pipe_32 : decode cX6_pipe 32 = .ok (.ireturn, 1) := by decide +kernel
theorem dX6_pipe_33 : decode cX6_pipe 33 = .ok (.aload_n 0, 1) := by decide +kernel
theorem dX6_pipe_34 : decode cX6_pipe 34 = .ok (.iload_n 2, 1) := by decide +kernel
theorem dX6_pipe_35 : decode cX6_pipe 35 = .ok (.iconst 2, 1) := by decide +kernel
theorem dX6_pipe_36 : decode cX6_pipe 36 = .ok (.invokevirtual 57, 3) := by decide +kernel
theorem dX6_pipe_39 : decode cX6_pipe 39 = .ok (.aload_n 0, 1) := by decide +kernel
theorem dX6_pipe_40 : decode cX6_pipe 40 = .ok (.iload_n 1, 1) := by decide +kernel
theorem dX6_pipe_41 : decode cX6_pipe 41 = .ok (.iconst 2, 1) := by decide +kernel
theorem dX6_pipe_42 : decode cX6_pipe 42 = .ok (.invokevirtual 57, 3) := by decide +kernel
theorem dX6_pipe_45 : decode cX6_pipe 45 = .ok (.if_icmp .lt 10, 3) := by decide +kernel
theorem dX6_pipe_48 : decode cX6_pipe 48 = .ok (.aload_n 0, 1) := by decide +kernel
theorem dX6_pipe_49 : decode cX6_pipe 49 = .ok (.ldc 98, 2) := by decide +kernel
theorem dX6_pipe_51 : decode cX6_pipe 51 = .ok (.invokevirtual 76, 3) := by decide +kernel
theorem dX6_pipe_54 : decode cX6_pipe 54 = .ok (.ireturn, 1) := by decide +kernel
theorem dX6_pipe_55 : decode cX6_pipe 55 = .ok (.aload_n 0, 1) := by decide +kernel
theorem dX6_pipe_56 : decode cX6_pipe 56 = .ok (.getfield 9, 3) := by decide +kernel
theorem dX6_pipe_59 : decode cX6_pipe 59 = .ok (.iconst 3, 1) := by decide +kernel
theorem dX6_pipe_60 : decode cX6_pipe 60 = .ok (.iaload, 1) := by decide +kernel
theorem dX6_pipe_61 : decode cX6_pipe 61 = .ok (.istore 4, 2) := by decide +kernel
theorem dX6_pipe_63 : decode cX6_pipe 63 = .ok (.iload 4, 2) := by decide +kernel
theorem dX6_pipe_65 : decode cX6_pipe 65 = .ok (.bipush 9, 2) := by decide +kernel
theorem dX6_pipe_67 : decode cX6_pipe 67 = .ok (.if_icmp .ne 10, 3) := by decide +kernel
theorem dX6_pipe_70 : decode cX6_pipe 70 = .ok (.aload_n 0, 1) := by decide +kernel
theorem dX6_pipe_71 : decode cX6_pipe 71 = .ok (.ldc 80, 2) := by decide +kernel
theorem dX6_pipe_73 : decode cX6_pipe 73 = .ok (.invokevirtual 76, 3) := by decide +kernel
theorem dX6_pipe_76 : decode cX6_pipe 76 = .ok (.ireturn, 1) := by decide +kernel
theorem dX6_pipe_77 : decode cX6_pipe 77 = .ok (.aload_n 0, 1) := by decide +kernel
theorem dX6_pipe_78 : decode cX6_pipe 78 = .ok (.getfield 9, 3) := by decide +kernel
theorem dX6_pipe_81 : decode cX6_pipe 81 = .ok (.iconst 3, 1) := by decide +kernel
theorem dX6_pipe_82 : decode cX6_pipe 82 = .ok (.dup2, 1) := by decide +kernel
theorem dX6_pipe_83 : decode cX6_pipe 83 = .ok (.iaload, 1) := by decide +kernel
theorem dX6_pipe_84 : decode cX6_pipe 84 = .ok (.iconst 1, 1) := by decide +kernel
theorem dX6_pipe_85 : decode cX6_pipe 85 = .ok (.iadd, 1) := by decide +kernel
theorem dX6_pipe_86 : decode cX6_pipe 86 = .ok (.iastore, 1) := by decide +kernel
theorem dX6_pipe_87 : decode cX6_pipe 87 = .ok (.aload_n 0, 1) := by decide +kernel
theorem dX6_pipe_88 : decode cX6_pipe 88 = .ok (.getfield 9, 3) := by decide +kernel
theorem dX6_pipe_91 : decode cX6_pipe 91 = .ok (.bipush 39, 2) := by decide +kernel
theorem dX6_pipe_93 : decode cX6_pipe 93 = .ok (.iconst 4, 1) := by decide +kernel
theorem dX6_pipe_94 : decode cX6_pipe 94 = .ok (.iload 4, 2) := by decide +kernel
theorem dX6_pipe_96 : decode cX6_pipe 96 = .ok (.imul, 1) := by decide +kernel
theorem dX6_pipe_97 : decode cX6_pipe 97 = .ok (.iadd, 1) := by decide +kernel
theorem dX6_pipe_98 : decode cX6_pipe 98 = .ok (.iload_n 1, 1) := by decide +kernel
theorem dX6_pipe_99 : decode cX6_pipe 99 = .ok (.iastore, 1) := by decide +kernel
theorem dX6_pipe_100 : decode cX6_pipe 100 = .ok (.aload_n 0, 1) := by decide +kernel
theorem dX6_pipe_101 : decode cX6_pipe 101 = .ok (.getfield 9, 3) := by decide +kernel
theorem dX6_pipe_104 : decode cX6_pipe 104 = .ok (.bipush 39, 2) := by decide +kernel
theorem dX6_pipe_106 : decode cX6_pipe 106 = .ok (.iconst 4, 1) := by decide +kernel
theorem dX6_pipe_107 : decode cX6_pipe 107 = .ok (.iload 4, 2) := by decide +kernel
theorem dX6_pipe_109 : decode cX6_pipe 109 = .ok (.imul, 1) := by decide +kernel
theorem dX6_pipe_110 : decode cX6_pipe 110 = .ok (.iadd, 1) := by decide +kernel
theorem dX6_pipe_111 : decode cX6_pipe 111 = .ok (.iconst 1, 1) := by decide +kernel
theorem dX6_pipe_112 : decode cX6_pipe 112 = .ok (.iadd, 1) := by decide +kernel
theorem dX6_pipe_113 : decode cX6_pipe 113 = .ok (.iload_n 2, 1) := by decide +kernel
theorem dX6_pipe_114 : decode cX6_pipe 114 = .ok (.iastore, 1) := by decide +kernel
theorem dX6_pipe_115 : decode cX6_pipe 115 = .ok (.aload_n 0, 1) := by decide +kernel
theorem dX6_pipe_116 : decode cX6_pipe 116 = .ok (.getfield 9, 3) := by decide +kernel
theorem dX6_pipe_119 : decode cX6_pipe 119 = .ok (.bipush 39, 2) := by decide +kernel
theorem dX6_pipe_121 : decode cX6_pipe 121 = .ok (.iconst 4, 1) := by decide +kernel
theorem dX6_pipe_122 : decode cX6_pipe 122 = .ok (.iload 4, 2) := by decide +kernel
theorem dX6_pipe_124 : decode cX6_pipe 124 = .ok (.imul, 1) := by decide +kernel
theorem dX6_pipe_125 : decode cX6_pipe 125 = .ok (.iadd, 1) := by decide +kernel
theorem dX6_pipe_126 : decode cX6_pipe 126 = .ok (.iconst 2, 1) := by decide +kernel
theorem dX6_pipe_127 : decode cX6_pipe 127 = .ok (.iadd, 1) := by decide +kernel
theorem dX6_pipe_128 : decode cX6_pipe 128 = .ok (.iload_n 3, 1) := by decide +kernel
theorem dX6_pipe_129 : decode cX6_pipe 129 = .ok (.iastore, 1) := by decide +kernel
theorem dX6_pipe_130 : decode cX6_pipe 130 = .ok (.aload_n 0, 1) := by decide +kernel
theorem dX6_pipe_131 : decode cX6_pipe 131 = .ok (.getfield 9, 3) := by decide +kernel
theorem dX6_pipe_134 : decode cX6_pipe 134 = .ok (.bipush 39, 2) := by decide +kernel
theorem dX6_pipe_136 : decode cX6_pipe 136 = .ok (.iconst 4, 1) := by decide +kernel
theorem dX6_pipe_137 : decode cX6_pipe 137 = .ok (.iload 4, 2) := by decide +kernel
theorem dX6_pipe_139 : decode cX6_pipe 139 = .ok (.imul, 1) := by decide +kernel
theorem dX6_pipe_140 : decode cX6_pipe 140 = .ok (.iadd, 1) := by decide +kernel
theorem dX6_pipe_141 : decode cX6_pipe 141 = .ok (.iconst 3, 1) := by decide +kernel
theorem dX6_pipe_142 : decode cX6_pipe 142 = .ok (.iadd, 1) := by decide +kernel
theorem dX6_pipe_143 : decode cX6_pipe 143 = .ok (.iconst 1, 1) := by decide +kernel
theorem dX6_pipe_144 : decode cX6_pipe 144 = .ok (.iastore, 1) := by decide +kernel
theorem dX6_pipe_145 : decode cX6_pipe 145 = .ok (.iload 4, 2) := by decide +kernel
theorem dX6_pipe_147 : decode cX6_pipe 147 = .ok (.ireturn, 1) := by decide +kernel
theorem dX6_pipeIs_0 : decode cX6_pipeIs 0 = .ok (.aload_n 0, 1) := by decide +kernel
theorem dX6_pipeIs_1 : decode cX6_pipeIs 1 = .ok (.iload_n 1, 1) := by decide +kernel
theorem dX6_pipeIs_2 : decode cX6_pipeIs 2 = .ok (.invokevirtual 99, 3) := by decide +kernel
theorem dX6_pipeIs_5 : decode cX6_pipeIs 5 = .ok (.ifCond .eq 12, 3) := by decide +kernel
theorem dX6_pipeIs_8 : decode cX6_pipeIs 8 = .ok (.iload_n 2, 1) := by decide +kernel
theorem dX6_pipeIs_9 : decode cX6_pipeIs 9 = .ok (.iconst 0, 1) := by decide +kernel
theorem dX6_pipeIs_10 : decode cX6_pipeIs 10 = .ok (.iconst 4, 1) := by decide +kernel
theorem dX6_pipeIs_11 : decode cX6_pipeIs 11 = .ok (.invokestatic 53, 3) := by decide +kernel
theorem dX6_pipeIs_14 : decode cX6_pipeIs 14 = .ok (.ifCond .ne 10, 3) := by decide +kernel
theorem dX6_pipeIs_17 : decode cX6_pipeIs 17 = .ok (.aload_n 0, 1) := by decide +kernel
theorem dX6_pipeIs_18 : decode cX6_pipeIs 18 = .ok (.ldc 75, 2) := by decide +kernel
theorem dX6_pipeIs_20 : decode cX6_pipeIs 20 = .ok (.invokevirtual 76, 3) := by decide +kernel
theorem dX6_pipeIs_23 : decode cX6_pipeIs 23 = .ok (.ireturn, 1) := by decide +kernel
theorem dX6_pipeIs_24 : decode cX6_pipeIs 24 = .ok (.iload_n 2, 1) := by decide +kernel
theorem dX6_pipeIs_25 : decode cX6_pipeIs 25 = .ok (.iconst 4, 1) := by decide +kernel
theorem dX6_pipeIs_26 : decode cX6_pipeIs 26 = .ok (.if_icmp .ge 12, 3) := by decide +kernel
theorem dX6_pipeIs_29 : decode cX6_pipeIs 29 = .ok (.aload_n 0, 1) := by decide +kernel
theorem dX6_pipeIs_30 : decode cX6_pipeIs 30 = .ok (.iload_n 1, 1) := by decide +kernel
theorem dX6_pipeIs_31 : decode cX6_pipeIs 31 = .ok (.iload_n 2, 1) := by decide +kernel
theorem dX6_pipeIs_32 : decode cX6_pipeIs 32 = .ok (.invokevirtual 68, 3) := by decide +kernel
theorem dX6_pipeIs_35 : decode cX6_pipeIs 35 = .ok (.goto 8, 3) := by decide +kernel
theorem dX6_pipeIs_38 : decode cX6_pipeIs 38 = .ok (.aload_n 0, 1) := by decide +kernel
theorem dX6_pipeIs_39 : decode cX6_pipeIs 39 = .ok (.iload_n 1, 1) := by decide +kernel
theorem dX6_pipeIs_40 : decode cX6_pipeIs 40 = .ok (.invokevirtual 102, 3) := by decide +kernel
theorem dX6_pipeIs_43 : decode cX6_pipeIs 43 = .ok (.ireturn, 1) := by decide +kernel
theorem dX6_turn_0 : decode cX6_turn 0 = .ok (.aload_n 0, 1) := by decide +kernel
theorem dX6_turn_1 : decode cX6_turn 1 = .ok (.iload_n 1, 1) := by decide +kernel
theorem dX6_turn_2 : decode cX6_turn 2 = .ok (.invokevirtual 99, 3) := by decide +kernel
theorem dX6_turn_5 : decode cX6_turn 5 = .ok (.ifCond .eq 28, 3) := by decide +kernel
theorem dX6_turn_8 : decode cX6_turn 8 = .ok (.iload_n 2, 1) := by decide +kernel
theorem dX6_turn_9 : decode cX6_turn 9 = .ok (.iconst 0, 1) := by decide +kernel
theorem dX6_turn_10 : decode cX6_turn 10 = .ok (.iconst 1, 1) := by decide +kernel
theorem dX6_turn_11 : decode cX6_turn 11 = .ok (.invokestatic 53, 3) := by decide +kernel
theorem dX6_turn_14 : decode cX6_turn 14 = .ok (.ifCond .eq 19, 3) := by decide +kernel
theorem dX6_turn_17 : decode cX6_turn 17 = .ok (.aload_n 0, 1) := by decide +kernel
theorem dX6_turn_18 : decode cX6_turn 18 = .ok (.bipush 39, 2) := by decide +kernel
theorem dX6_turn_20 : decode cX6_turn 20 = .ok (.iconst 4, 1) := by decide +kernel
theorem dX6_turn_21 : decode cX6_turn 21 = .ok (.iload_n 1, 1) := by decide +kernel
theorem dX6_turn_22 : decode cX6_turn 22 = .ok (.imul, 1) := by decide +kernel
theorem dX6_turn_23 : decode cX6_turn 23 = .ok (.iadd, 1) := by decide +kernel
theorem dX6_turn_24 : decode cX6_turn 24 = .ok (.iconst 3, 1) := by decide +kernel
theorem dX6_turn_25 : decode cX6_turn 25 = .ok (.iadd, 1) := by decide +kernel
theorem dX6_turn_26 : decode cX6_turn 26 = .ok (.iload_n 2, 1) := by decide +kernel
theorem dX6_turn_27 : decode cX6_turn 27 = .ok (.invokevirtual 84, 3) := by decide +kernel
theorem dX6_turn_30 : decode cX6_turn 30 = .ok (.goto 9, 3) := by decide +kernel
theorem dX6_turn_33 : decode cX6_turn 33 = .ok (.aload_n 0, 1) := by decide +kernel
theorem dX6_turn_34 : decode cX6_turn 34 = .ok (.ldc 75, 2) := by decide +kernel
theorem dX6_turn_36 : decode cX6_turn 36 = .ok (.invokevirtual 76, 3) := by decide +kernel
theorem dX6_turn_39 : decode cX6_turn 39 = .ok (.ireturn, 1) := by decide +kernel
theorem dX6_freeze_0 : decode cX6_freeze 0 = .ok (.iload_n 1, 1) := by decide +kernel
theorem dX6_freeze_1 : decode cX6_freeze 1 = .ok (.iconst 0, 1) := by decide +kernel
theorem dX6_freeze_2 : decode cX6_freeze 2 = .ok (.bipush 9, 2) := by decide +kernel
theorem dX6_freeze_4 : decode cX6_freeze 4 = .ok (.invokestatic 53, 3) := by decide +kernel
theorem dX6_freeze_7 : decode cX6_freeze 7 = .ok (.ifCond .eq 12, 3) := by decide +kernel
theorem dX6_freeze_10 : decode cX6_freeze 10 = .ok (.aload_n 0, 1) := by decide +kernel
theorem dX6_freeze_11 : decode cX6_freeze 11 = .ok (.iconst 4, 1) := by decide +kernel
theorem dX6_freeze_12 : decode cX6_freeze 12 = .ok (.iload_n 1, 1) := by decide +kernel
theorem dX6_freeze_13 : decode cX6_freeze 13 = .ok (.invokevirtual 84, 3) := by decide +kernel
theorem dX6_freeze_16 : decode cX6_freeze 16 = .ok (.goto 9, 3) := by decide +kernel
theorem dX6_freeze_19 : decode cX6_freeze 19 = .ok (.aload_n 0, 1) := by decide +kernel
theorem dX6_freeze_20 : decode cX6_freeze 20 = .ok (.ldc 75, 2) := by decide +kernel
theorem dX6_freeze_22 : decode cX6_freeze 22 = .ok (.invokevirtual 76, 3) := by decide +kernel
theorem dX6_freeze_25 : decode cX6_freeze 25 = .ok (.ireturn, 1) := by decide +kernel
theorem dX6_feed_0 : decode cX6_feed 0 = .ok (.iload_n 3, 1) := by decide +kernel
theorem dX6_feed_1 : decode cX6_feed 1 = .ok (.iconst 1, 1) := by decide +kernel
theorem dX6_feed_2 : decode cX6_feed 2 = .ok (.bipush 8, 2) := by decide +kernel
theorem dX6_feed_4 : decode cX6_feed 4 = .ok (.invokestatic 53, 3) := by decide +kernel
theorem dX6_feed_7 : decode cX6_feed 7 = .ok (.ifCond .ne 10, 3) := by decide +kernel
theorem dX6_feed_10 : decode cX6_feed 10 = .ok (.aload_n 0, 1) := by decide +kernel
theorem dX6_feed_11 : decode cX6_feed 11 = .ok (.ldc 75, 2) := by decide +kernel
theorem dX6_feed_13 : decode cX6_feed 13 = .ok (.invokevirtual 76, 3) := by decide +kernel
theorem dX6_feed_16 : decode cX6_feed 16 = .ok (.ireturn, 1) := by decide +kernel
theorem dX6_feed_17 : decode cX6_feed 17 = .ok (.aload_n 0, 1) := by decide +kernel
theorem dX6_feed_18 : decode cX6_feed 18 = .ok (.getfield 9, 3) := by decide +kernel
theorem dX6_feed_21 : decode cX6_feed 21 = .ok (.iconst 5, 1) := by decide +kernel
theorem dX6_feed_22 : decode cX6_feed 22 = .ok (.iaload, 1) := by decide +kernel
theorem dX6_feed_23 : decode cX6_feed 23 = .ok (.iload_n 3, 1) := by decide +kernel
theorem dX6_feed_24 : decode cX6_feed 24 = .ok (.iadd, 1) := by decide +kernel
theorem dX6_feed_25 : decode cX6_feed 25 = .ok (.bipush 60, 2) := by decide +kernel
theorem dX6_feed_27 : decode cX6_feed 27 = .ok (.if_icmp .le 10, 3) := by decide +kernel
theorem dX6_feed_30 : decode cX6_feed 30 = .ok (.aload_n 0, 1) := by decide +kernel
theorem dX6_feed_31 : decode cX6_feed 31 = .ok (.ldc 80, 2) := by decide +kernel
theorem dX6_feed_33 : decode cX6_feed 33 = .ok (.invokevirtual 76, 3) := by decide +kernel
theorem dX6_feed_36 : decode cX6_feed 36 = .ok (.ireturn, 1) := by decide +kernel
theorem dX6_feed_37 : decode cX6_feed 37 = .ok (.iconst 0, 1) := by decide +kernel
theorem dX6_feed_38 : decode cX6_feed 38 = .ok (.istore 4, 2) := by decide +kernel
theorem dX6_feed_40 : decode cX6_feed 40 = .ok (.iload 4, 2) := by decide +kernel
theorem dX6_feed_42 : decode cX6_feed 42 = .ok (.iload_n 3, 1) := by decide +kernel
theorem dX6_feed_43 : decode cX6_feed 43 = .ok (.if_icmp .ge 45, 3) := by decide +kernel
theorem dX6_feed_46 : decode cX6_feed 46 = .ok (.aload_n 0, 1) := by decide +kernel
theorem dX6_feed_47 : decode cX6_feed 47 = .ok (.getfield 9, 3) := by decide +kernel
theorem dX6_feed_50 : decode cX6_feed 50 = .ok (.bipush 75, 2) := by decide +kernel
theorem dX6_feed_52 : decode cX6_feed 52 = .ok (.aload_n 0, 1) := by decide +kernel
theorem dX6_feed_53 : decode cX6_feed 53 = .ok (.getfield 9, 3) := by decide +kernel
theorem dX6_feed_56 : decode cX6_feed 56 = .ok (.iconst 5, 1) := by decide +kernel
theorem dX6_feed_57 : decode cX6_feed 57 = .ok (.iaload, 1) := by decide +kernel
theorem dX6_feed_58 : decode cX6_feed 58 = .ok (.iadd, 1) := by decide +kernel
theorem dX6_feed_59 : decode cX6_feed 59 = .ok (.lload_n 1, 1) := by decide +kernel
theorem dX6_feed_60 : decode cX6_feed 60 = .ok (.bipush 8, 2) := by decide +kernel
theorem dX6_feed_62 : decode cX6_feed 62 = .ok (.iload 4, 2) := by decide +kernel
theorem dX6_feed_64 : decode cX6_feed 64 = .ok (.imul, 1) := by decide +kernel
theorem dX6_feed_65 : decode cX6_feed 65 = .ok (.lshr, 1) := by decide +kernel
theorem dX6_feed_66 : decode cX6_feed 66 = .ok (.ldc2_w 105, 3) := by decide +kernel
theorem dX6_feed_69 : decode cX6_feed 69 = .ok (.land, 1) := by decide +kernel
theorem dX6_feed_70 : decode cX6_feed 70 = .ok (.l2i, 1) := by decide +kernel
theorem dX6_feed_71 : decode cX6_feed 71 = .ok (.iastore, 1) := by decide +kernel
theorem dX6_feed_72 : decode cX6_feed 72 = .ok (.aload_n 0, 1) := by decide +kernel
theorem dX6_feed_73 : decode cX6_feed 73 = .ok (.getfield 9, 3) := by decide +kernel
theorem dX6_feed_76 : decode cX6_feed 76 = .ok (.iconst 5, 1) := by decide +kernel
theorem dX6_feed_77 : decode cX6_feed 77 = .ok (.dup2, 1) := by decide +kernel
theorem dX6_feed_78 : decode cX6_feed 78 = .ok (.iaload, 1) := by decide +kernel
theorem dX6_feed_79 : decode cX6_feed 79 = .ok (.iconst 1, 1) := by decide +kernel
theorem dX6_feed_80 : decode cX6_feed 80 = .ok (.iadd, 1) := by decide +kernel
theorem dX6_feed_81 : decode cX6_feed 81 = .ok (.iastore, 1) := by decide +kernel
theorem dX6_feed_82 : decode cX6_feed 82 = .ok (.iinc 4 1, 3) := by decide +kernel
theorem dX6_feed_85 : decode cX6_feed 85 = .ok (.goto (-45), 3) := by decide +kernel
theorem dX6_feed_88 : decode cX6_feed 88 = .ok (.aload_n 0, 1) := by decide +kernel
theorem dX6_feed_89 : decode cX6_feed 89 = .ok (.getfield 9, 3) := by decide +kernel
theorem dX6_feed_92 : decode cX6_feed 92 = .ok (.iconst 5, 1) := by decide +kernel
theorem dX6_feed_93 : decode cX6_feed 93 = .ok (.iaload, 1) := by decide +kernel
theorem dX6_feed_94 : decode cX6_feed 94 = .ok (.ireturn, 1) := by decide +kernel
theorem dX6_look_0 : decode cX6_look 0 = .ok (.aload_n 0, 1) := by decide +kernel
theorem dX6_look_1 : decode cX6_look 1 = .ok (.getfield 107, 3) := by decide +kernel
theorem dX6_look_4 : decode cX6_look 4 = .ok (.aload_n 0, 1) := by decide +kernel
theorem dX6_look_5 : decode cX6_look 5 = .ok (.getfield 9, 3) := by decide +kernel
theorem dX6_look_8 : decode cX6_look 8 = .ok (.iconst 5, 1) := by decide +kernel
theorem dX6_look_9 : decode cX6_look 9 = .ok (.iaload, 1) := by decide +kernel
theorem dX6_look_10 : decode cX6_look 10 = .ok (.if_icmp .ge 18, 3) := by decide +kernel
theorem dX6_look_13 : decode cX6_look 13 = .ok (.aload_n 0, 1) := by decide +kernel
theorem dX6_look_14 : decode cX6_look 14 = .ok (.getfield 9, 3) := by decide +kernel
theorem dX6_look_17 : decode cX6_look 17 = .ok (.bipush 75, 2) := by decide +kernel
theorem dX6_look_19 : decode cX6_look 19 = .ok (.aload_n 0, 1) := by decide +kernel
theorem dX6_look_20 : decode cX6_look 20 = .ok (.getfield 107, 3) := by decide +kernel
theorem dX6_look_23 : decode cX6_look 23 = .ok (.iadd, 1) := by decide +kernel
theorem dX6_look_24 : decode cX6_look 24 = .ok (.iaload, 1) := by decide +kernel
theorem dX6_look_25 : decode cX6_look 25 = .ok (.goto 4, 3) := by decide +kernel
theorem dX6_look_28 : decode cX6_look 28 = .ok (.iconst (-1), 1) := by decide +kernel
theorem dX6_look_29 : decode cX6_look 29 = .ok (.ireturn, 1) := by decide +kernel
theorem dX6_lays_0 : decode cX6_lays 0 = .ok (.aload_n 0, 1) := by decide +kernel
theorem dX6_lays_1 : decode cX6_lays 1 = .ok (.getfield 111, 3) := by decide +kernel
theorem dX6_lays_4 : decode cX6_lays 4 = .ok (.aload_n 0, 1) := by decide +kernel
theorem dX6_lays_5 : decode cX6_lays 5 = .ok (.getfield 28, 3) := by decide +kernel
theorem dX6_lays_8 : decode cX6_lays 8 = .ok (.arraylength, 1) := by decide +kernel
theorem dX6_lays_9 : decode cX6_lays 9 = .ok (.if_icmp .ge 33, 3) := by decide +kernel
theorem dX6_lays_12 : decode cX6_lays 12 = .ok (.aload_n 0, 1) := by decide +kernel
theorem dX6_lays_13 : decode cX6_lays 13 = .ok (.getfield 28, 3) := by decide +kernel
theorem dX6_lays_16 : decode cX6_lays 16 = .ok (.aload_n 0, 1) := by decide +kernel
theorem dX6_lays_17 : decode cX6_lays 17 = .ok (.getfield 111, 3) := by decide +kernel
theorem dX6_lays_20 : decode cX6_lays 20 = .ok (.iload_n 1, 1) := by decide +kernel
theorem dX6_lays_21 : decode cX6_lays 21 = .ok (.iastore, 1) := by decide +kernel
theorem dX6_lays_22 : decode cX6_lays 22 = .ok (.aload_n 0, 1) := by decide +kernel
theorem dX6_lays_23 : decode cX6_lays 23 = .ok (.getfield 31, 3) := by decide +kernel
theorem dX6_lays_26 : decode cX6_lays 26 = .ok (.aload_n 0, 1) := by decide +kernel
theorem dX6_lays_27 : decode cX6_lays 27 = .ok (.getfield 111, 3) := by decide +kernel
theorem dX6_lays_30 : decode cX6_lays 30 = .ok (.iload_n 2, 1) := by decide +kernel
theorem dX6_lays_31 : decode cX6_lays 31 = .ok (.iastore, 1) := by decide +kernel
theorem dX6_lays_32 : decode cX6_lays 32 = .ok (.aload_n 0, 1) := by decide +kernel
theorem dX6_lays_33 : decode cX6_lays 33 = .ok (.dup, 1) := by decide +kernel
theorem dX6_lays_34 : decode cX6_lays 34 = .ok (.getfield 111, 3) := by decide +kernel
theorem dX6_lays_37 : decode cX6_lays 37 = .ok (.iconst 1, 1) := by decide +kernel
theorem dX6_lays_38 : decode cX6_lays 38 = .ok (.iadd, 1) := by decide +kernel
theorem dX6_lays_39 : decode cX6_lays 39 = .ok (.putfield 111, 3) := by decide +kernel
theorem dX6_lays_42 : decode cX6_lays 42 = .ok (.return_, 1) := by decide +kernel
theorem dX6_nameOf_0 : decode cX6_nameOf 0 = .ok (.iload_n 1, 1) := by decide +kernel
theorem dX6_nameOf_1 : decode cX6_nameOf 1 = .ok (.lookupswitch 111 #[(100, 87), (102, 87), (104, 51), (107, 64), (122, 64)], 51) := by decide +kernel
theorem dX6_nameOf_52 : decode cX6_nameOf 52 = .ok (.aload_n 0, 1) := by decide +kernel
theorem dX6_nameOf_53 : decode cX6_nameOf 53 = .ok (.getfield 114, 3) := by decide +kernel
theorem dX6_nameOf_56 : decode cX6_nameOf 56 = .ok (.ifCond .ne 7, 3) := by decide +kernel
theorem dX6_nameOf_59 : decode cX6_nameOf 59 = .ok (.iconst 1, 1) := by decide +kernel
theorem dX6_nameOf_60 : decode cX6_nameOf 60 = .ok (.goto 4, 3) := by decide +kernel
theorem dX6_nameOf_63 : decode cX6_nameOf 63 = .ok (.iconst 2, 1) := by decide +kernel
theorem dX6_nameOf_64 : decode cX6_nameOf 64 = .ok (.ireturn, 1) := by decide +kernel
theorem dX6_nameOf_65 : decode cX6_nameOf 65 = .ok (.aload_n 0, 1) := by decide +kernel
theorem dX6_nameOf_66 : decode cX6_nameOf 66 = .ok (.getfield 114, 3) := by decide +kernel
theorem dX6_nameOf_69 : decode cX6_nameOf 69 = .ok (.ifCond .eq 7, 3) := by decide +kernel
theorem dX6_nameOf_72 : decode cX6_nameOf 72 = .ok (.iconst (-1), 1) := by decide +kernel
theorem dX6_nameOf_73 : decode cX6_nameOf 73 = .ok (.goto 14, 3) := by decide +kernel
theorem dX6_nameOf_76 : decode cX6_nameOf 76 = .ok (.iload_n 1, 1) := by decide +kernel
theorem dX6_nameOf_77 : decode cX6_nameOf 77 = .ok (.bipush 122, 2) := by decide +kernel
theorem dX6_nameOf_79 : decode cX6_nameOf 79 = .ok (.if_icmp .ne 7, 3) := by decide +kernel
theorem dX6_nameOf_82 : decode cX6_nameOf 82 = .ok (.iconst 0, 1) := by decide +kernel
theorem dX6_nameOf_83 : decode cX6_nameOf 83 = .ok (.goto 4, 3) := by decide +kernel
theorem dX6_nameOf_86 : decode cX6_nameOf 86 = .ok (.iconst 2, 1) := by decide +kernel
theorem dX6_nameOf_87 : decode cX6_nameOf 87 = .ok (.ireturn, 1) := by decide +kernel
theorem dX6_nameOf_88 : decode cX6_nameOf 88 = .ok (.aload_n 0, 1) := by decide +kernel
theorem dX6_nameOf_89 : decode cX6_nameOf 89 = .ok (.getfield 114, 3) := by decide +kernel
theorem dX6_nameOf_92 : decode cX6_nameOf 92 = .ok (.iconst 1, 1) := by decide +kernel
theorem dX6_nameOf_93 : decode cX6_nameOf 93 = .ok (.if_icmp .eq 7, 3) := by decide +kernel
theorem dX6_nameOf_96 : decode cX6_nameOf 96 = .ok (.iconst (-1), 1) := by decide +kernel
theorem dX6_nameOf_97 : decode cX6_nameOf 97 = .ok (.goto 14, 3) := by decide +kernel
theorem dX6_nameOf_100 : decode cX6_nameOf 100 = .ok (.iload_n 1, 1) := by decide +kernel
theorem dX6_nameOf_101 : decode cX6_nameOf 101 = .ok (.bipush 100, 2) := by decide +kernel
theorem dX6_nameOf_103 : decode cX6_nameOf 103 = .ok (.if_icmp .ne 7, 3) := by decide +kernel
theorem dX6_nameOf_106 : decode cX6_nameOf 106 = .ok (.iconst 0, 1) := by decide +kernel
theorem dX6_nameOf_107 : decode cX6_nameOf 107 = .ok (.goto 4, 3) := by decide +kernel
theorem dX6_nameOf_110 : decode cX6_nameOf 110 = .ok (.iconst 1, 1) := by decide +kernel
theorem dX6_nameOf_111 : decode cX6_nameOf 111 = .ok (.ireturn, 1) := by decide +kernel
theorem dX6_nameOf_112 : decode cX6_nameOf 112 = .ok (.iconst (-1), 1) := by decide +kernel
theorem dX6_nameOf_113 : decode cX6_nameOf 113 = .ok (.ireturn, 1) := by decide +kernel
theorem dX6_number_0 : decode cX6_number 0 = .ok (.iconst 0, 1) := by decide +kernel
theorem dX6_number_1 : decode cX6_number 1 = .ok (.istore_n 1, 1) := by decide +kernel
theorem dX6_number_2 : decode cX6_number 2 = .ok (.iconst 0, 1) := by decide +kernel
theorem dX6_number_3 : decode cX6_number 3 = .ok (.istore_n 2, 1) := by decide +kernel
theorem dX6_number_4 : decode cX6_number 4 = .ok (.iload_n 2, 1) := by decide +kernel
theorem dX6_number_5 : decode cX6_number 5 = .ok (.iconst 4, 1) := by decide +kernel
theorem dX6_number_6 : decode cX6_number 6 = .ok (.if_icmp .ge 46, 3) := by decide +kernel
theorem dX6_number_9 : decode cX6_number 9 = .ok (.aload_n 0, 1) := by decide +kernel
theorem dX6_number_10 : decode cX6_number 10 = .ok (.invokevirtual 117, 3) := by decide +kernel
theorem dX6_number_13 : decode cX6_number 13 = .ok (.bipush 48, 2) := by decide +kernel
theorem dX6_number_15 : decode cX6_number 15 = .ok (.bipush 57, 2) := by decide +kernel
theorem dX6_number_17 : decode cX6_number 17 = .ok (.invokestatic 53, 3) := by decide +kernel
theorem dX6_number_20 : decode cX6_number 20 = .ok (.ifCond .eq 32, 3) := by decide +kernel
theorem dX6_number_23 : decode cX6_number 23 = .ok (.bipush 10, 2) := by decide +kernel
theorem dX6_number_25 : decode cX6_number 25 = .ok (.iload_n 1, 1) := by decide +kernel
theorem dX6_number_26 : decode cX6_number 26 = .ok (.imul, 1) := by decide +kernel
theorem dX6_number_27 : decode cX6_number 27 = .ok (.aload_n 0, 1) := by decide +kernel
theorem dX6_number_28 : decode cX6_number 28 = .ok (.invokevirtual 117, 3) := by decide +kernel
theorem dX6_number_31 : decode cX6_number 31 = .ok (.iadd, 1) := by decide +kernel
theorem dX6_number_32 : decode cX6_number 32 = .ok (.bipush 48, 2) := by decide +kernel
theorem dX6_number_34 : decode cX6_number 34 = .ok (.isub, 1) := by decide +kernel
theorem dX6_number_35 : decode cX6_number 35 = .ok (.istore_n 1, 1) := by decide +kernel
theorem dX6_number_36 : decode cX6_number 36 = .ok (.aload_n 0, 1) := by decide +kernel
theorem dX6_number_37 : decode cX6_number 37 = .ok (.dup, 1) := by decide +kernel
theorem dX6_number_38 : decode cX6_number 38 = .ok (.getfield 107, 3) := by decide +kernel
theorem dX6_number_41 : decode cX6_number 41 = .ok (.iconst 1, 1) := by decide +kernel
theorem dX6_number_42 : decode cX6_number 42 = .ok (.iadd, 1) := by decide +kernel
theorem dX6_number_43 : decode cX6_number 43 = .ok (.putfield 107, 3) := by decide +kernel
theorem dX6_number_46 : decode cX6_number 46 = .ok (.iinc 2 1, 3) := by decide +kernel
theorem dX6_number_49 : decode cX6_number 49 = .ok (.goto (-45), 3) := by decide +kernel
theorem dX6_number_52 : decode cX6_number 52 = .ok (.aload_n 0, 1) := by decide +kernel
theorem dX6_number_53 : decode cX6_number 53 = .ok (.iload_n 2, 1) := by decide +kernel
theorem dX6_number_54 : decode cX6_number 54 = .ok (.ifCond .ne 7, 3) := by decide +kernel
theorem dX6_number_57 : decode cX6_number 57 = .ok (.iconst 1, 1) := by decide +kernel
theorem dX6_number_58 : decode cX6_number 58 = .ok (.goto 4, 3) := by decide +kernel
theorem dX6_number_61 : decode cX6_number 61 = .ok (.iconst 0, 1) := by decide +kernel
theorem dX6_number_62 : decode cX6_number 62 = .ok (.putfield 121, 3) := by decide +kernel
theorem dX6_number_65 : decode cX6_number 65 = .ok (.aload_n 0, 1) := by decide +kernel
theorem dX6_number_66 : decode cX6_number 66 = .ok (.iconst 1, 1) := by decide +kernel
theorem dX6_number_67 : decode cX6_number 67 = .ok (.iload_n 1, 1) := by decide +kernel
theorem dX6_number_68 : decode cX6_number 68 = .ok (.invokevirtual 125, 3) := by decide +kernel
theorem dX6_number_71 : decode cX6_number 71 = .ok (.return_, 1) := by decide +kernel
theorem dX6_opens_0 : decode cX6_opens 0 = .ok (.aload_n 0, 1) := by decide +kernel
theorem dX6_opens_1 : decode cX6_opens 1 = .ok (.getfield 129, 3) := by decide +kernel
theorem dX6_opens_4 : decode cX6_opens 4 = .ok (.iconst 5, 1) := by decide +kernel
theorem dX6_opens_5 : decode cX6_opens 5 = .ok (.if_icmp .ne 9, 3) := by decide +kernel
theorem dX6_opens_8 : decode cX6_opens 8 = .ok (.aload_n 0, 1) := by decide +kernel
theorem dX6_opens_9 : decode cX6_opens 9 = .ok (.iconst 1, 1) := by decide +kernel
theorem dX6_opens_10 : decode cX6_opens 10 = .ok (.putfield 121, 3) := by decide +kernel
theorem dX6_opens_13 : decode cX6_opens 13 = .ok (.return_, 1) := by decide +kernel
theorem dX6_opens_14 : decode cX6_opens 14 = .ok (.aload_n 0, 1) := by decide +kernel
theorem dX6_opens_15 : decode cX6_opens 15 = .ok (.dup, 1) := by decide +kernel
theorem dX6_opens_16 : decode cX6_opens 16 = .ok (.getfield 129, 3) := by decide +kernel
theorem dX6_opens_19 : decode cX6_opens 19 = .ok (.iconst 1, 1) := by decide +kernel
theorem dX6_opens_20 : decode cX6_opens 20 = .ok (.iadd, 1) := by decide +kernel
theorem dX6_opens_21 : decode cX6_opens 21 = .ok (.putfield 129, 3) := by decide +kernel
theorem dX6_opens_24 : decode cX6_opens 24 = .ok (.aload_n 0, 1) := by decide +kernel
theorem dX6_opens_25 : decode cX6_opens 25 = .ok (.dup, 1) := by decide +kernel
theorem dX6_opens_26 : decode cX6_opens 26 = .ok (.getfield 107, 3) := by decide +kernel
theorem dX6_opens_29 : decode cX6_opens 29 = .ok (.iconst 1, 1) := by decide +kernel
theorem dX6_opens_30 : decode cX6_opens 30 = .ok (.iadd, 1) := by decide +kernel
theorem dX6_opens_31 : decode cX6_opens 31 = .ok (.putfield 107, 3) := by decide +kernel
theorem dX6_opens_34 : decode cX6_opens 34 = .ok (.iload_n 1, 1) := by decide +kernel
theorem dX6_opens_35 : decode cX6_opens 35 = .ok (.bipush 33, 2) := by decide +kernel
theorem dX6_opens_37 : decode cX6_opens 37 = .ok (.if_icmp .ne 16, 3) := by decide +kernel
theorem dX6_opens_40 : decode cX6_opens 40 = .ok (.aload_n 0, 1) := by decide +kernel
theorem dX6_opens_41 : decode cX6_opens 41 = .ok (.invokevirtual 132, 3) := by decide +kernel
theorem dX6_opens_44 : decode cX6_opens 44 = .ok (.aload_n 0, 1) := by decide +kernel
theorem dX6_opens_45 : decode cX6_opens 45 = .ok (.iconst 3, 1) := by decide +kernel
theorem dX6_opens_46 : decode cX6_opens 46 = .ok (.iconst 0, 1) := by decide +kernel
theorem dX6_opens_47 : decode cX6_opens 47 = .ok (.invokevirtual 125, 3) := by decide +kernel
theorem dX6_opens_50 : decode cX6_opens 50 = .ok (.goto 53, 3) := by decide +kernel
theorem dX6_opens_53 : decode cX6_opens 53 = .ok (.aload_n 0, 1) := by decide +kernel
theorem dX6_opens_54 : decode cX6_opens 54 = .ok (.invokevirtual 135, 3) := by decide +kernel
theorem dX6_opens_57 : decode cX6_opens 57 = .ok (.aload_n 0, 1) := by decide +kernel
theorem dX6_opens_58 : decode cX6_opens 58 = .ok (.aload_n 0, 1) := by decide +kernel
theorem dX6_opens_59 : decode cX6_opens 59 = .ok (.getfield 121, 3) := by decide +kernel
theorem dX6_opens_62 : decode cX6_opens 62 = .ok (.ifCond .ne 12, 3) := by decide +kernel
theorem dX6_opens_65 : decode cX6_opens 65 = .ok (.aload_n 0, 1) := by decide +kernel
theorem dX6_opens_66 : decode cX6_opens 66 = .ok (.invokevirtual 117, 3) := by decide +kernel
theorem dX6_opens_69 : decode cX6_opens 69 = .ok (.bipush 41, 2) := by decide +kernel
theorem dX6_opens_71 : decode cX6_opens 71 = .ok (.if_icmp .eq 7, 3) := by decide +kernel
theorem dX6_opens_74 : decode cX6_opens 74 = .ok (.iconst 1, 1) := by decide +kernel
theorem dX6_opens_75 : decode cX6_opens 75 = .ok (.goto 4, 3) := by decide +kernel
theorem dX6_opens_78 : decode cX6_opens 78 = .ok (.iconst 0, 1) := by decide +kernel
theorem dX6_opens_79 : decode cX6_opens 79 = .ok (.putfield 121, 3) := by decide +kernel
theorem dX6_opens_82 : decode cX6_opens 82 = .ok (.aload_n 0, 1) := by decide +kernel
theorem dX6_opens_83 : decode cX6_opens 83 = .ok (.dup, 1) := by decide +kernel
theorem dX6_opens_84 : decode cX6_opens 84 = .ok (.getfield 107, 3) := by decide +kernel
theorem dX6_opens_87 : decode cX6_opens 87 = .ok (.aload_n 0, 1) := by decide +kernel
theorem dX6_opens_88 : decode cX6_opens 88 = .ok (.getfield 121, 3) := by decide +kernel
theorem dX6_opens_91 : decode cX6_opens 91 = .ok (.ifCond .eq 7, 3) := by decide +kernel
theorem dX6_opens_94 : decode cX6_opens 94 = .ok (.iconst 0, 1) := by decide +kernel
theorem dX6_opens_95 : decode cX6_opens 95 = .ok (.goto 4, 3) := by decide +kernel
theorem dX6_opens_98 : decode cX6_opens 98 = .ok (.iconst 1, 1) := by decide +kernel
theorem dX6_opens_99 : decode cX6_opens 99 = .ok (.iadd, 1) := by decide +kernel
theorem dX6_opens_100 : decode cX6_opens 100 = .ok (.putfield 107, 3) := by decide +kernel
theorem dX6_opens_103 : decode cX6_opens 103 = .ok (.aload_n 0, 1) := by decide +kernel
theorem dX6_opens_104 : decode cX6_opens 104 = .ok (.dup, 1) := by decide +kernel
theorem dX6_opens_105 : decode cX6_opens 105 = .ok (.getfield 129, 3) := by decide +kernel
theorem dX6_opens_108 : decode cX6_opens 108 = .ok (.iconst 1, 1) := by decide +kernel
theorem dX6_opens_109 : decode cX6_opens 109 = .ok (.isub, 1) := by decide +kernel
theorem dX6_opens_110 : decode cX6_opens 110 = .ok (.putfield 129, 3) := by decide +kernel
theorem dX6_opens_113 : decode cX6_opens 113 = .ok (.return_, 1) := by decide +kernel
theorem dX6_one_0 : decode cX6_one 0 = .ok (.aload_n 0, 1) := by decide +kernel
theorem dX6_one_1 : decode cX6_one 1 = .ok (.invokevirtual 117, 3) := by decide +kernel
theorem dX6_one_4 : decode cX6_one 4 = .ok (.istore_n 1, 1) := by decide +kernel
theorem dX6_one_5 : decode cX6_one 5 = .ok (.aload_n 0, 1) := by decide +kernel
theorem dX6_one_6 : decode cX6_one 6 = .ok (.iload_n 1, 1) := by decide +kernel
theorem dX6_one_7 : decode cX6_one 7 = .ok (.invokevirtual 138, 3) := by decide +kernel
theorem dX6_one_10 : decode cX6_one 10 = .ok (.istore_n 2, 1) := by decide +kernel
theorem dX6_one_11 : decode cX6_one 11 = .ok (.iload_n 2, 1) := by decide +kernel
theorem dX6_one_12 : decode cX6_one 12 = .ok (.ifCond .lt 22, 3) := by decide +kernel
theorem dX6_one_15 : decode cX6_one 15 = .ok (.aload_n 0, 1) := by decide +kernel
theorem dX6_one_16 : decode cX6_one 16 = .ok (.dup, 1) := by decide +kernel
theorem dX6_one_17 : decode cX6_one 17 = .ok (.getfield 107, 3) := by decide +kernel
theorem dX6_one_20 : decode cX6_one 20 = .ok (.iconst 1, 1) := by decide +kernel
theorem dX6_one_21 : decode cX6_one 21 = .ok (.iadd, 1) := by decide +kernel
theorem dX6_one_22 : decode cX6_one 22 = .ok (.putfield 107, 3) := by decide +kernel
theorem dX6_one_25 : decode cX6_one 25 = .ok (.aload_n 0, 1) := by decide +kernel
theorem dX6_one_26 : decode cX6_one 26 = .ok (.iconst 2, 1) := by decide +kernel
theorem dX6_one_27 : decode cX6_one 27 = .ok (.iload_n 2, 1) := by decide +kernel
theorem dX6_one_28 : decode cX6_one 28 = .ok (.invokevirtual 125, 3) := by decide +kernel
theorem dX6_one_31 : decode cX6_one 31 = .ok (.goto 27, 3) := by decide +kernel
theorem dX6_one_34 : decode cX6_one 34 = .ok (.iload_n 1, 1) := by decide +kernel
theorem dX6_one_35 : decode cX6_one 35 = .ok (.bipush 33, 2) := by decide +kernel
theorem dX6_one_37 : decode cX6_one 37 = .ok (.if_icmp .eq 9, 3) := by decide +kernel
theorem dX6_one_40 : decode cX6_one 40 = .ok (.iload_n 1, 1) := by decide +kernel
theorem dX6_one_41 : decode cX6_one 41 = .ok (.bipush 40, 2) := by decide +kernel
theorem dX6_one_43 : decode cX6_one 43 = .ok (.if_icmp .ne 11, 3) := by decide +kernel
theorem dX6_one_46 : decode cX6_one 46 = .ok (.aload_n 0, 1) := by decide +kernel
theorem dX6_one_47 : decode cX6_one 47 = .ok (.iload_n 1, 1) := by decide +kernel
theorem dX6_one_48 : decode cX6_one 48 = .ok (.invokevirtual 141, 3) := by decide +kernel
theorem dX6_one_51 : decode cX6_one 51 = .ok (.goto 7, 3) := by decide +kernel
theorem dX6_one_54 : decode cX6_one 54 = .ok (.aload_n 0, 1) := by decide +kernel
theorem dX6_one_55 : decode cX6_one 55 = .ok (.invokevirtual 145, 3) := by decide +kernel
theorem dX6_one_58 : decode cX6_one 58 = .ok (.return_, 1) := by decide +kernel
theorem dX6_times_0 : decode cX6_times 0 = .ok (.aload_n 0, 1) := by decide +kernel
theorem dX6_times_1 : decode cX6_times 1 = .ok (.invokevirtual 132, 3) := by decide +kernel
theorem dX6_times_4 : decode cX6_times 4 = .ok (.aload_n 0, 1) := by decide +kernel
theorem dX6_times_5 : decode cX6_times 5 = .ok (.getfield 121, 3) := by decide +kernel
theorem dX6_times_8 : decode cX6_times 8 = .ok (.ifCond .ne 58, 3) := by decide +kernel
theorem dX6_times_11 : decode cX6_times 11 = .ok (.aload_n 0, 1) := by decide +kernel
theorem dX6_times_12 : decode cX6_times 12 = .ok (.invokevirtual 117, 3) := by decide +kernel
theorem dX6_times_15 : decode cX6_times 15 = .ok (.bipush 42, 2) := by decide +kernel
theorem dX6_times_17 : decode cX6_times 17 = .ok (.if_icmp .eq 21, 3) := by decide +kernel
theorem dX6_times_20 : decode cX6_times 20 = .ok (.aload_n 0, 1) := by decide +kernel
theorem dX6_times_21 : decode cX6_times 21 = .ok (.invokevirtual 117, 3) := by decide +kernel
theorem dX6_times_24 : decode cX6_times 24 = .ok (.bipush 47, 2) := by decide +kernel
theorem dX6_times_26 : decode cX6_times 26 = .ok (.if_icmp .eq 12, 3) := by decide +kernel
theorem dX6_times_29 : decode cX6_times 29 = .ok (.aload_n 0, 1) := by decide +kernel
theorem dX6_times_30 : decode cX6_times 30 = .ok (.invokevirtual 117, 3) := by decide +kernel
theorem dX6_times_33 : decode cX6_times 33 = .ok (.bipush 37, 2) := by decide +kernel
theorem dX6_times_35 : decode cX6_times 35 = .ok (.if_icmp .ne 31, 3) := by decide +kernel
theorem dX6_times_38 : decode cX6_times 38 = .ok (.aload_n 0, 1) := by decide +kernel
theorem dX6_times_39 : decode cX6_times 39 = .ok (.invokevirtual 117, 3) := by decide +kernel
theorem dX6_times_42 : decode cX6_times 42 = .ok (.istore_n 1, 1) := by decide +kernel
theorem dX6_times_43 : decode cX6_times 43 = .ok (.aload_n 0, 1) := by decide +kernel
theorem dX6_times_44 : decode cX6_times 44 = .ok (.dup, 1) := by decide +kernel
theorem dX6_times_45 : decode cX6_times 45 = .ok (.getfield 107, 3) := by decide +kernel
theorem dX6_times_48 : decode cX6_times 48 = .ok (.iconst 1, 1) := by decide +kernel
theorem dX6_times_49 : decode cX6_times 49 = .ok (.iadd, 1) := by decide +kernel
theorem dX6_times_50 : decode cX6_times 50 = .ok (.putfield 107, 3) := by decide +kernel
theorem dX6_times_53 : decode cX6_times 53 = .ok (.aload_n 0, 1) := by decide +kernel
theorem dX6_times_54 : decode cX6_times 54 = .ok (.invokevirtual 132, 3) := by decide +kernel
theorem dX6_times_57 : decode cX6_times 57 = .ok (.aload_n 0, 1) := by decide +kernel
theorem dX6_times_58 : decode cX6_times 58 = .ok (.iload_n 1, 1) := by decide +kernel
theorem dX6_times_59 : decode cX6_times 59 = .ok (.iconst 0, 1) := by decide +kernel
theorem dX6_times_60 : decode cX6_times 60 = .ok (.invokevirtual 125, 3) := by decide +kernel
theorem dX6_times_63 : decode cX6_times 63 = .ok (.goto (-59), 3) := by decide +kernel
theorem dX6_times_66 : decode cX6_times 66 = .ok (.return_, 1) := by decide +kernel
theorem dX6_sum_0 : decode cX6_sum 0 = .ok (.aload_n 0, 1) := by decide +kernel
theorem dX6_sum_1 : decode cX6_sum 1 = .ok (.invokevirtual 148, 3) := by decide +kernel
theorem dX6_sum_4 : decode cX6_sum 4 = .ok (.aload_n 0, 1) := by decide +kernel
theorem dX6_sum_5 : decode cX6_sum 5 = .ok (.getfield 121, 3) := by decide +kernel
theorem dX6_sum_8 : decode cX6_sum 8 = .ok (.ifCond .ne 49, 3) := by decide +kernel
theorem dX6_sum_11 : decode cX6_sum 11 = .ok (.aload_n 0, 1) := by decide +kernel
theorem dX6_sum_12 : decode cX6_sum 12 = .ok (.invokevirtual 117, 3) := by decide +kernel
theorem dX6_sum_15 : decode cX6_sum 15 = .ok (.bipush 43, 2) := by decide +kernel
theorem dX6_sum_17 : decode cX6_sum 17 = .ok (.if_icmp .eq 12, 3) := by decide +kernel
theorem dX6_sum_20 : decode cX6_sum 20 = .ok (.aload_n 0, 1) := by decide +kernel
theorem dX6_sum_21 : decode cX6_sum 21 = .ok (.invokevirtual 117, 3) := by decide +kernel
theorem dX6_sum_24 : decode cX6_sum 24 = .ok (.bipush 45, 2) := by decide +kernel
theorem dX6_sum_26 : decode cX6_sum 26 = .ok (.if_icmp .ne 31, 3) := by decide +kernel
theorem dX6_sum_29 : decode cX6_sum 29 = .ok (.aload_n 0, 1) := by decide +kernel
theorem dX6_sum_30 : decode cX6_sum 30 = .ok (.invokevirtual 117, 3) := by decide +kernel
theorem dX6_sum_33 : decode cX6_sum 33 = .ok (.istore_n 1, 1) := by decide +kernel
theorem dX6_sum_34 : decode cX6_sum 34 = .ok (.aload_n 0, 1) := by decide +kernel
theorem dX6_sum_35 : decode cX6_sum 35 = .ok (.dup, 1) := by decide +kernel
theorem dX6_sum_36 : decode cX6_sum 36 = .ok (.getfield 107, 3) := by decide +kernel
theorem dX6_sum_39 : decode cX6_sum 39 = .ok (.iconst 1, 1) := by decide +kernel
theorem dX6_sum_40 : decode cX6_sum 40 = .ok (.iadd, 1) := by decide +kernel
theorem dX6_sum_41 : decode cX6_sum 41 = .ok (.putfield 107, 3) := by decide +kernel
theorem dX6_sum_44 : decode cX6_sum 44 = .ok (.aload_n 0, 1) := by decide +kernel
theorem dX6_sum_45 : decode cX6_sum 45 = .ok (.invokevirtual 148, 3) := by decide +kernel
theorem dX6_sum_48 : decode cX6_sum 48 = .ok (.aload_n 0, 1) := by decide +kernel
theorem dX6_sum_49 : decode cX6_sum 49 = .ok (.iload_n 1, 1) := by decide +kernel
theorem dX6_sum_50 : decode cX6_sum 50 = .ok (.iconst 0, 1) := by decide +kernel
theorem dX6_sum_51 : decode cX6_sum 51 = .ok (.invokevirtual 125, 3) := by decide +kernel
theorem dX6_sum_54 : decode cX6_sum 54 = .ok (.goto (-50), 3) := by decide +kernel
theorem dX6_sum_57 : decode cX6_sum 57 = .ok (.return_, 1) := by decide +kernel
theorem dX6_compares_0 : decode cX6_compares 0 = .ok (.aload_n 0, 1) := by decide +kernel
theorem dX6_compares_1 : decode cX6_compares 1 = .ok (.invokevirtual 151, 3) := by decide +kernel
theorem dX6_compares_4 : decode cX6_compares 4 = .ok (.aload_n 0, 1) := by decide +kernel
theorem dX6_compares_5 : decode cX6_compares 5 = .ok (.invokevirtual 117, 3) := by decide +kernel
theorem dX6_compares_8 : decode cX6_compares 8 = .ok (.istore_n 1, 1) := by decide +kernel
theorem dX6_compares_9 : decode cX6_compares 9 = .ok (.aload_n 0, 1) := by decide +kernel
theorem dX6_compares_10 : decode cX6_compares 10 = .ok (.getfield 121, 3) := by decide +kernel
theorem dX6_compares_13 : decode cX6_compares 13 = .ok (.ifCond .ne 41, 3) := by decide +kernel
theorem dX6_compares_16 : decode cX6_compares 16 = .ok (.iload_n 1, 1) := by decide +kernel
theorem dX6_compares_17 : decode cX6_compares 17 = .ok (.bipush 60, 2) := by decide +kernel
theorem dX6_compares_19 : decode cX6_compares 19 = .ok (.if_icmp .eq 15, 3) := by decide +kernel
theorem dX6_compares_22 : decode cX6_compares 22 = .ok (.iload_n 1, 1) := by decide +kernel
theorem dX6_compares_23 : decode cX6_compares 23 = .ok (.bipush 61, 2) := by decide +kernel
theorem dX6_compares_25 : decode cX6_compares 25 = .ok (.if_icmp .eq 9, 3) := by decide +kernel
theorem dX6_compares_28 : decode cX6_compares 28 = .ok (.iload_n 1, 1) := by decide +kernel
theorem dX6_compares_29 : decode cX6_compares 29 = .ok (.bipush 62, 2) := by decide +kernel
theorem dX6_compares_31 : decode cX6_compares 31 = .ok (.if_icmp .ne 23, 3) := by decide +kernel
theorem dX6_compares_34 : decode cX6_compares 34 = .ok (.aload_n 0, 1) := by decide +kernel
theorem dX6_compares_35 : decode cX6_compares 35 = .ok (.dup, 1) := by decide +kernel
theorem dX6_compares_36 : decode cX6_compares 36 = .ok (.getfield 107, 3) := by decide +kernel
theorem dX6_compares_39 : decode cX6_compares 39 = .ok (.iconst 1, 1) := by decide +kernel
theorem dX6_compares_40 : decode cX6_compares 40 = .ok (.iadd, 1) := by decide +kernel
theorem dX6_compares_41 : decode cX6_compares 41 = .ok (.putfield 107, 3) := by decide +kernel
theorem dX6_compares_44 : decode cX6_compares 44 = .ok (.aload_n 0, 1) := by decide +kernel
theorem dX6_compares_45 : decode cX6_compares 45 = .ok (.invokevirtual 151, 3) := by decide +kernel
theorem dX6_compares_48 : decode cX6_compares 48 = .ok (.aload_n 0, 1) := by decide +kernel
theorem dX6_compares_49 : decode cX6_compares 49 = .ok (.iload_n 1, 1) := by decide +kernel
theorem dX6_compares_50 : decode cX6_compares 50 = .ok (.iconst 0, 1) := by decide +kernel
theorem dX6_compares_51 : decode cX6_compares 51 = .ok (.invokevirtual 125, 3) := by decide +kernel
theorem dX6_compares_54 : decode cX6_compares 54 = .ok (.return_, 1) := by decide +kernel
theorem dX6_all_0 : decode cX6_all 0 = .ok (.aload_n 0, 1) := by decide +kernel
theorem dX6_all_1 : decode cX6_all 1 = .ok (.invokevirtual 154, 3) := by decide +kernel
theorem dX6_all_4 : decode cX6_all 4 = .ok (.aload_n 0, 1) := by decide +kernel
theorem dX6_all_5 : decode cX6_all 5 = .ok (.getfield 121, 3) := by decide +kernel
theorem dX6_all_8 : decode cX6_all 8 = .ok (.ifCond .ne 36, 3) := by decide +kernel
theorem dX6_all_11 : decode cX6_all 11 = .ok (.aload_n 0, 1) := by decide +kernel
theorem dX6_all_12 : decode cX6_all 12 = .ok (.invokevirtual 117, 3) := by decide +kernel
theorem dX6_all_15 : decode cX6_all 15 = .ok (.bipush 38, 2) := by decide +kernel
theorem dX6_all_17 : decode cX6_all 17 = .ok (.if_icmp .ne 27, 3) := by decide +kernel
theorem dX6_all_20 : decode cX6_all 20 = .ok (.aload_n 0, 1) := by decide +kernel
theorem dX6_all_21 : decode cX6_all 21 = .ok (.dup, 1) := by decide +kernel
theorem dX6_all_22 : decode cX6_all 22 = .ok (.getfield 107, 3) := by decide +kernel
theorem dX6_all_25 : decode cX6_all 25 = .ok (.iconst 1, 1) := by decide +kernel
theorem dX6_all_26 : decode cX6_all 26 = .ok (.iadd, 1) := by decide +kernel
theorem dX6_all_27 : decode cX6_all 27 = .ok (.putfield 107, 3) := by decide +kernel
theorem dX6_all_30 : decode cX6_all 30 = .ok (.aload_n 0, 1) := by decide +kernel
theorem dX6_all_31 : decode cX6_all 31 = .ok (.invokevirtual 154, 3) := by decide +kernel
theorem dX6_all_34 : decode cX6_all 34 = .ok (.aload_n 0, 1) := by decide +kernel
theorem dX6_all_35 : decode cX6_all 35 = .ok (.bipush 38, 2) := by decide +kernel
theorem dX6_all_37 : decode cX6_all 37 = .ok (.iconst 0, 1) := by decide +kernel
theorem dX6_all_38 : decode cX6_all 38 = .ok (.invokevirtual 125, 3) := by decide +kernel
theorem dX6_all_41 : decode cX6_all 41 = .ok (.goto (-37), 3) := by decide +kernel
theorem dX6_all_44 : decode cX6_all 44 = .ok (.return_, 1) := by decide +kernel
theorem dX6_any_0 : decode cX6_any 0 = .ok (.aload_n 0, 1) := by decide +kernel
theorem dX6_any_1 : decode cX6_any 1 = .ok (.invokevirtual 157, 3) := by decide +kernel
theorem dX6_any_4 : decode cX6_any 4 = .ok (.aload_n 0, 1) := by decide +kernel
theorem dX6_any_5 : decode cX6_any 5 = .ok (.getfield 121, 3) := by decide +kernel
theorem dX6_any_8 : decode cX6_any 8 = .ok (.ifCond .ne 36, 3) := by decide +kernel
theorem dX6_any_11 : decode cX6_any 11 = .ok (.aload_n 0, 1) := by decide +kernel
theorem dX6_any_12 : decode cX6_any 12 = .ok (.invokevirtual 117, 3) := by decide +kernel
theorem dX6_any_15 : decode cX6_any 15 = .ok (.bipush 124, 2) := by decide +kernel
theorem dX6_any_17 : decode cX6_any 17 = .ok (.if_icmp .ne 27, 3) := by decide +kernel
theorem dX6_any_20 : decode cX6_any 20 = .ok (.aload_n 0, 1) := by decide +kernel
theorem dX6_any_21 : decode cX6_any 21 = .ok (.dup, 1) := by decide +kernel
theorem dX6_any_22 : decode cX6_any 22 = .ok (.getfield 107, 3) := by decide +kernel
theorem dX6_any_25 : decode cX6_any 25 = .ok (.iconst 1, 1) := by decide +kernel
theorem dX6_any_26 : decode cX6_any 26 = .ok (.iadd, 1) := by decide +kernel
theorem dX6_any_27 : decode cX6_any 27 = .ok (.putfield 107, 3) := by decide +kernel
theorem dX6_any_30 : decode cX6_any 30 = .ok (.aload_n 0, 1) := by decide +kernel
theorem dX6_any_31 : decode cX6_any 31 = .ok (.invokevirtual 157, 3) := by decide +kernel
theorem dX6_any_34 : decode cX6_any 34 = .ok (.aload_n 0, 1) := by decide +kernel
theorem dX6_any_35 : decode cX6_any 35 = .ok (.bipush 124, 2) := by decide +kernel
theorem dX6_any_37 : decode cX6_any 37 = .ok (.iconst 0, 1) := by decide +kernel
theorem dX6_any_38 : decode cX6_any 38 = .ok (.invokevirtual 125, 3) := by decide +kernel
theorem dX6_any_41 : decode cX6_any 41 = .ok (.goto (-37), 3) := by decide +kernel
theorem dX6_any_44 : decode cX6_any 44 = .ok (.return_, 1) := by decide +kernel
theorem dX6_text_0 : decode cX6_text 0 = .ok (.iload_n 1, 1) := by decide +kernel
theorem dX6_text_1 : decode cX6_text 1 = .ok (.iconst 0, 1) := by decide +kernel
theorem dX6_text_2 : decode cX6_text 2 = .ok (.iconst 1, 1) := by decide +kernel
theorem dX6_text_3 : decode cX6_text 3 = .ok (.invokestatic 53, 3) := by decide +kernel
theorem dX6_text_6 : decode cX6_text 6 = .ok (.ifCond .ne 10, 3) := by decide +kernel
theorem dX6_text_9 : decode cX6_text 9 = .ok (.aload_n 0, 1) := by decide +kernel
theorem dX6_text_10 : decode cX6_text 10 = .ok (.ldc 75, 2) := by decide +kernel
theorem dX6_text_12 : decode cX6_text 12 = .ok (.invokevirtual 76, 3) := by decide +kernel
theorem dX6_text_15 : decode cX6_text 15 = .ok (.ireturn, 1) := by decide +kernel
theorem dX6_text_16 : decode cX6_text 16 = .ok (.aload_n 0, 1) := by decide +kernel
theorem dX6_text_17 : decode cX6_text 17 = .ok (.iload_n 1, 1) := by decide +kernel
theorem dX6_text_18 : decode cX6_text 18 = .ok (.putfield 114, 3) := by decide +kernel
theorem dX6_text_21 : decode cX6_text 21 = .ok (.aload_n 0, 1) := by decide +kernel
theorem dX6_text_22 : decode cX6_text 22 = .ok (.iconst 0, 1) := by decide +kernel
theorem dX6_text_23 : decode cX6_text 23 = .ok (.putfield 111, 3) := by decide +kernel
theorem dX6_text_26 : decode cX6_text 26 = .ok (.aload_n 0, 1) := by decide +kernel
theorem dX6_text_27 : decode cX6_text 27 = .ok (.iconst 0, 1) := by decide +kernel
theorem dX6_text_28 : decode cX6_text 28 = .ok (.putfield 107, 3) := by decide +kernel
theorem dX6_text_31 : decode cX6_text 31 = .ok (.aload_n 0, 1) := by decide +kernel
theorem dX6_text_32 : decode cX6_text 32 = .ok (.iconst 0, 1) := by decide +kernel
theorem dX6_text_33 : decode cX6_text 33 = .ok (.putfield 129, 3) := by decide +kernel
theorem dX6_text_36 : decode cX6_text 36 = .ok (.aload_n 0, 1) := by decide +kernel
theorem dX6_text_37 : decode cX6_text 37 = .ok (.iconst 0, 1) := by decide +kernel
theorem dX6_text_38 : decode cX6_text 38 = .ok (.putfield 121, 3) := by decide +kernel
theorem dX6_text_41 : decode cX6_text 41 = .ok (.aload_n 0, 1) := by decide +kernel
theorem dX6_text_42 : decode cX6_text 42 = .ok (.invokevirtual 135, 3) := by decide +kernel
theorem dX6_text_45 : decode cX6_text 45 = .ok (.aload_n 0, 1) := by decide +kernel
theorem dX6_text_46 : decode cX6_text 46 = .ok (.aload_n 0, 1) := by decide +kernel
theorem dX6_text_47 : decode cX6_text 47 = .ok (.getfield 121, 3) := by decide +kernel
theorem dX6_text_50 : decode cX6_text 50 = .ok (.ifCond .ne 16, 3) := by decide +kernel
theorem dX6_text_53 : decode cX6_text 53 = .ok (.aload_n 0, 1) := by decide +kernel
theorem dX6_text_54 : decode cX6_text 54 = .ok (.getfield 107, 3) := by decide +kernel
theorem dX6_text_57 : decode cX6_text 57 = .ok (.aload_n 0, 1) := by decide +kernel
theorem dX6_text_58 : decode cX6_text 58 = .ok (.getfield 9, 3) := by decide +kernel
theorem dX6_text_61 : decode cX6_text 61 = .ok (.iconst 5, 1) := by decide +kernel
theorem dX6_text_62 : decode cX6_text 62 = .ok (.iaload, 1) := by decide +kernel
theorem dX6_text_63 : decode cX6_text 63 = .ok (.if_icmp .ge 7, 3) := by decide +kernel
theorem dX6_text_66 : decode cX6_text 66 = .ok (.iconst 1, 1) := by decide +kernel
theorem dX6_text_67 : decode cX6_text 67 = .ok (.goto 4, 3) := by decide +kernel
theorem dX6_text_70 : decode cX6_text 70 = .ok (.iconst 0, 1) := by decide +kernel
theorem dX6_text_71 : decode cX6_text 71 = .ok (.putfield 121, 3) := by decide +kernel
theorem dX6_text_74 : decode cX6_text 74 = .ok (.aload_n 0, 1) := by decide +kernel
theorem dX6_text_75 : decode cX6_text 75 = .ok (.getfield 9, 3) := by decide +kernel
theorem dX6_text_78 : decode cX6_text 78 = .ok (.iconst 5, 1) := by decide +kernel
theorem dX6_text_79 : decode cX6_text 79 = .ok (.iconst 0, 1) := by decide +kernel
theorem dX6_text_80 : decode cX6_text 80 = .ok (.iastore, 1) := by decide +kernel
theorem dX6_text_81 : decode cX6_text 81 = .ok (.aload_n 0, 1) := by decide +kernel
theorem dX6_text_82 : decode cX6_text 82 = .ok (.getfield 121, 3) := by decide +kernel
theorem dX6_text_85 : decode cX6_text 85 = .ok (.ifCond .eq 11, 3) := by decide +kernel
theorem dX6_text_88 : decode cX6_text 88 = .ok (.bipush (-10), 2) := by decide +kernel
theorem dX6_text_90 : decode cX6_text 90 = .ok (.aload_n 0, 1) := by decide +kernel
theorem dX6_text_91 : decode cX6_text 91 = .ok (.getfield 107, 3) := by decide +kernel
theorem dX6_text_94 : decode cX6_text 94 = .ok (.isub, 1) := by decide +kernel
theorem dX6_text_95 : decode cX6_text 95 = .ok (.ireturn, 1) := by decide +kernel
theorem dX6_text_96 : decode cX6_text 96 = .ok (.sipush 159, 3) := by decide +kernel
theorem dX6_text_99 : decode cX6_text 99 = .ok (.bipush 121, 2) := by decide +kernel
theorem dX6_text_101 : decode cX6_text 101 = .ok (.iload_n 1, 1) := by decide +kernel
theorem dX6_text_102 : decode cX6_text 102 = .ok (.imul, 1) := by decide +kernel
theorem dX6_text_103 : decode cX6_text 103 = .ok (.iadd, 1) := by decide +kernel
theorem dX6_text_104 : decode cX6_text 104 = .ok (.istore_n 2, 1) := by decide +kernel
theorem dX6_text_105 : decode cX6_text 105 = .ok (.aload_n 0, 1) := by decide +kernel
theorem dX6_text_106 : decode cX6_text 106 = .ok (.getfield 9, 3) := by decide +kernel
theorem dX6_text_109 : decode cX6_text 109 = .ok (.iload_n 2, 1) := by decide +kernel
theorem dX6_text_110 : decode cX6_text 110 = .ok (.aload_n 0, 1) := by decide +kernel
theorem dX6_text_111 : decode cX6_text 111 = .ok (.getfield 111, 3) := by decide +kernel
theorem dX6_text_114 : decode cX6_text 114 = .ok (.iastore, 1) := by decide +kernel
theorem dX6_text_115 : decode cX6_text 115 = .ok (.iconst 0, 1) := by decide +kernel
theorem dX6_text_116 : decode cX6_text 116 = .ok (.istore_n 3, 1) := by decide +kernel
theorem dX6_text_117 : decode cX6_text 117 = .ok (.iload_n 3, 1) := by decide +kernel
theorem dX6_text_118 : decode cX6_text 118 = .ok (.aload_n 0, 1) := by decide +kernel
theorem dX6_text_119 : decode cX6_text 119 = .ok (.getfield 111, 3) := by decide +kernel
theorem dX6_text_122 : decode cX6_text 122 = .ok (.if_icmp .ge 42, 3) := by decide +kernel
theorem dX6_text_125 : decode cX6_text 125 = .ok (.aload_n 0, 1) := by decide +kernel
theorem dX6_text_126 : decode cX6_text 126 = .ok (.getfield 9, 3) := by decide +kernel
theorem dX6_text_129 : decode cX6_text 129 = .ok (.iload_n 2, 1) := by decide +kernel
theorem dX6_text_130 : decode cX6_text 130 = .ok (.iconst 1, 1) := by decide +kernel
theorem dX6_text_131 : decode cX6_text 131 = .ok (.iadd, 1) := by decide +kernel
theorem dX6_text_132 : decode cX6_text 132 = .ok (.iload_n 3, 1) := by decide +kernel
theorem dX6_text_133 : decode cX6_text 133 = .ok (.iadd, 1) := by decide +kernel
theorem dX6_text_134 : decode cX6_text 134 = .ok (.aload_n 0, 1) := by decide +kernel
theorem dX6_text_135 : decode cX6_text 135 = .ok (.getfield 28, 3) := by decide +kernel
theorem dX6_text_138 : decode cX6_text 138 = .ok (.iload_n 3, 1) := by decide +kernel
theorem dX6_text_139 : decode cX6_text 139 = .ok (.iaload, 1) := by decide +kernel
theorem dX6_text_140 : decode cX6_text 140 = .ok (.iastore, 1) := by decide +kernel
theorem dX6_text_141 : decode cX6_text 141 = .ok (.aload_n 0, 1) := by decide +kernel
theorem dX6_text_142 : decode cX6_text 142 = .ok (.getfield 9, 3) := by decide +kernel
theorem dX6_text_145 : decode cX6_text 145 = .ok (.iload_n 2, 1) := by decide +kernel
theorem dX6_text_146 : decode cX6_text 146 = .ok (.bipush 61, 2) := by decide +kernel
theorem dX6_text_148 : decode cX6_text 148 = .ok (.iadd, 1) := by decide +kernel
theorem dX6_text_149 : decode cX6_text 149 = .ok (.iload_n 3, 1) := by decide +kernel
theorem dX6_text_150 : decode cX6_text 150 = .ok (.iadd, 1) := by decide +kernel
theorem dX6_text_151 : decode cX6_text 151 = .ok (.aload_n 0, 1) := by decide +kernel
theorem dX6_text_152 : decode cX6_text 152 = .ok (.getfield 31, 3) := by decide +kernel
theorem dX6_text_155 : decode cX6_text 155 = .ok (.iload_n 3, 1) := by decide +kernel
theorem dX6_text_156 : decode cX6_text 156 = .ok (.iaload, 1) := by decide +kernel
theorem dX6_text_157 : decode cX6_text 157 = .ok (.iastore, 1) := by decide +kernel
theorem dX6_text_158 : decode cX6_text 158 = .ok (.iinc 3 1, 3) := by decide +kernel
theorem dX6_text_161 : decode cX6_text 161 = .ok (.goto (-44), 3) := by decide +kernel
theorem dX6_text_164 : decode cX6_text 164 = .ok (.iconst 1, 1) := by decide +kernel
theorem dX6_text_165 : decode cX6_text 165 = .ok (.ireturn, 1) := by decide +kernel
theorem dX6_untell_0 : decode cX6_untell 0 = .ok (.iload_n 1, 1) := by decide +kernel
theorem dX6_untell_1 : decode cX6_untell 1 = .ok (.iconst 0, 1) := by decide +kernel
theorem dX6_untell_2 : decode cX6_untell 2 = .ok (.iconst 1, 1) := by decide +kernel
theorem dX6_untell_3 : decode cX6_untell 3 = .ok (.invokestatic 53, 3) := by decide +kernel
theorem dX6_untell_6 : decode cX6_untell 6 = .ok (.ifCond .ne 10, 3) := by decide +kernel
theorem dX6_untell_9 : decode cX6_untell 9 = .ok (.aload_n 0, 1) := by decide +kernel
theorem dX6_untell_10 : decode cX6_untell 10 = .ok (.ldc 75, 2) := by decide +kernel
theorem dX6_untell_12 : decode cX6_untell 12 = .ok (.invokevirtual 76, 3) := by decide +kernel
theorem dX6_untell_15 : decode cX6_untell 15 = .ok (.ireturn, 1) := by decide +kernel
theorem dX6_untell_16 : decode cX6_untell 16 = .ok (.aload_n 0, 1) := by decide +kernel
theorem dX6_untell_17 : decode cX6_untell 17 = .ok (.sipush 159, 3) := by decide +kernel
theorem dX6_untell_20 : decode cX6_untell 20 = .ok (.bipush 121, 2) := by decide +kernel
theorem dX6_untell_22 : decode cX6_untell 22 = .ok (.iload_n 1, 1) := by decide +kernel
theorem dX6_untell_23 : decode cX6_untell 23 = .ok (.imul, 1) := by decide +kernel
theorem dX6_untell_24 : decode cX6_untell 24 = .ok (.iadd, 1) := by decide +kernel
theorem dX6_untell_25 : decode cX6_untell 25 = .ok (.iconst 0, 1) := by decide +kernel
theorem dX6_untell_26 : decode cX6_untell 26 = .ok (.invokevirtual 84, 3) := by decide +kernel
theorem dX6_untell_29 : decode cX6_untell 29 = .ok (.ifCond .le 7, 3) := by decide +kernel
theorem dX6_untell_32 : decode cX6_untell 32 = .ok (.iconst 1, 1) := by decide +kernel
theorem dX6_untell_33 : decode cX6_untell 33 = .ok (.goto 4, 3) := by decide +kernel
theorem dX6_untell_36 : decode cX6_untell 36 = .ok (.iconst 0, 1) := by decide +kernel
theorem dX6_untell_37 : decode cX6_untell 37 = .ok (.ireturn, 1) := by decide +kernel
theorem dX6_twoOf_0 : decode cX6_twoOf 0 = .ok (.iload_n 0, 1) := by decide +kernel
theorem dX6_twoOf_1 : decode cX6_twoOf 1 = .ok (.tableswitch 202 37 62 #[143, 188, 202, 202, 202, 127, 119, 202, 123, 202, 131, 202, 202, 202, 202, 202, 202, 202, 202, 202, 202, 202, 202, 155, 166, 177], 119) := by decide +kernel
theorem dX6_twoOf_120 : decode cX6_twoOf 120 = .ok (.iload_n 1, 1) := by decide +kernel
theorem dX6_twoOf_121 : decode cX6_twoOf 121 = .ok (.iload_n 2, 1) := by decide +kernel
theorem dX6_twoOf_122 : decode cX6_twoOf 122 = .ok (.iadd, 1) := by decide +kernel
theorem dX6_twoOf_123 : decode cX6_twoOf 123 = .ok (.ireturn, 1) := by decide +kernel
theorem dX6_twoOf_124 : decode cX6_twoOf 124 = .ok (.iload_n 1, 1) := by decide +kernel
theorem dX6_twoOf_125 : decode cX6_twoOf 125 = .ok (.iload_n 2, 1) := by decide +kernel
theorem dX6_twoOf_126 : decode cX6_twoOf 126 = .ok (.isub, 1) := by decide +kernel
theorem dX6_twoOf_127 : decode cX6_twoOf 127 = .ok (.ireturn, 1) := by decide +kernel
theorem dX6_twoOf_128 : decode cX6_twoOf 128 = .ok (.iload_n 1, 1) := by decide +kernel
theorem dX6_twoOf_129 : decode cX6_twoOf 129 = .ok (.iload_n 2, 1) := by decide +kernel
theorem dX6_twoOf_130 : decode cX6_twoOf 130 = .ok (.imul, 1) := by decide +kernel
theorem dX6_twoOf_131 : decode cX6_twoOf 131 = .ok (.ireturn, 1) := by decide +kernel
theorem dX6_twoOf_132 : decode cX6_twoOf 132 = .ok (.iload_n 2, 1) := by decide +kernel
theorem dX6_twoOf_133 : decode cX6_twoOf 133 = .ok (.ifCond .ne 7, 3) := by decide +kernel
theorem dX6_twoOf_136 : decode cX6_twoOf 136 = .ok (.iconst 0, 1) := by decide +kernel
theorem dX6_twoOf_137 : decode cX6_twoOf 137 = .ok (.goto 6, 3) := by decide +kernel
theorem dX6_twoOf_140 : decode cX6_twoOf 140 = .ok (.iload_n 1, 1) := by decide +kernel
theorem dX6_twoOf_141 : decode cX6_twoOf 141 = .ok (.iload_n 2, 1) := by decide +kernel
theorem dX6_twoOf_142 : decode cX6_twoOf 142 = .ok (.idiv, 1) := by decide +kernel
theorem dX6_twoOf_143 : decode cX6_twoOf 143 = .ok (.ireturn, 1) := by decide +kernel
theorem dX6_twoOf_144 : decode cX6_twoOf 144 = .ok (.iload_n 2, 1) := by decide +kernel
theorem dX6_twoOf_145 : decode cX6_twoOf 145 = .ok (.ifCond .ne 7, 3) := by decide +kernel
theorem dX6_twoOf_148 : decode cX6_twoOf 148 = .ok (.iconst 0, 1) := by decide +kernel
theorem dX6_twoOf_149 : decode cX6_twoOf 149 = .ok (.goto 6, 3) := by decide +kernel
theorem dX6_twoOf_152 : decode cX6_twoOf 152 = .ok (.iload_n 1, 1) := by decide +kernel
theorem dX6_twoOf_153 : decode cX6_twoOf 153 = .ok (.iload_n 2, 1) := by decide +kernel
theorem dX6_twoOf_154 : decode cX6_twoOf 154 = .ok (.irem, 1) := by decide +kernel
theorem dX6_twoOf_155 : decode cX6_twoOf 155 = .ok (.ireturn, 1) := by decide +kernel
theorem dX6_twoOf_156 : decode cX6_twoOf 156 = .ok (.iload_n 1, 1) := by decide +kernel
theorem dX6_twoOf_157 : decode cX6_twoOf 157 = .ok (.iload_n 2, 1) := by decide +kernel
theorem dX6_twoOf_158 : decode cX6_twoOf 158 = .ok (.if_icmp .ge 7, 3) := by decide +kernel
theorem dX6_twoOf_161 : decode cX6_twoOf 161 = .ok (.iconst 1, 1) := by decide +kernel
theorem dX6_twoOf_162 : decode cX6_twoOf 162 = .ok (.goto 4, 3) := by decide +kernel
theorem dX6_twoOf_165 : decode cX6_twoOf 165 = .ok (.iconst 0, 1) := by decide +kernel
theorem dX6_twoOf_166 : decode cX6_twoOf 166 = .ok (.ireturn, 1) := by decide +kernel
theorem dX6_twoOf_167 : decode cX6_twoOf 167 = .ok (.iload_n 1, 1) := by decide +kernel
theorem dX6_twoOf_168 : decode cX6_twoOf 168 = .ok (.iload_n 2, 1) := by decide +kernel
theorem dX6_twoOf_169 : decode cX6_twoOf 169 = .ok (.if_icmp .ne 7, 3) := by decide +kernel
theorem dX6_twoOf_172 : decode cX6_twoOf 172 = .ok (.iconst 1, 1) := by decide +kernel
theorem dX6_twoOf_173 : decode cX6_twoOf 173 = .ok (.goto 4, 3) := by decide +kernel
theorem dX6_twoOf_176 : decode cX6_twoOf 176 = .ok (.iconst 0, 1) := by decide +kernel
theorem dX6_twoOf_177 : decode cX6_twoOf 177 = .ok (.ireturn, 1) := by decide +kernel
theorem dX6_twoOf_178 : decode cX6_twoOf 178 = .ok (.iload_n 1, 1) := by decide +kernel
theorem dX6_twoOf_179 : decode cX6_twoOf 179 = .ok (.iload_n 2, 1) := by decide +kernel
theorem dX6_twoOf_180 : decode cX6_twoOf 180 = .ok (.if_icmp .le 7, 3) := by decide +kernel
theorem dX6_twoOf_183 : decode cX6_twoOf 183 = .ok (.iconst 1, 1) := by decide +kernel
theorem dX6_twoOf_184 : decode cX6_twoOf 184 = .ok (.goto 4, 3) := by decide +kernel
theorem dX6_twoOf_187 : decode cX6_twoOf 187 = .ok (.iconst 0, 1) := by decide +kernel
theorem dX6_twoOf_188 : decode cX6_twoOf 188 = .ok (.ireturn, 1) := by decide +kernel
theorem dX6_twoOf_189 : decode cX6_twoOf 189 = .ok (.iload_n 1, 1) := by decide +kernel
theorem dX6_twoOf_190 : decode cX6_twoOf 190 = .ok (.ifCond .eq 11, 3) := by decide +kernel
theorem dX6_twoOf_193 : decode cX6_twoOf 193 = .ok (.iload_n 2, 1) := by decide +kernel
theorem dX6_twoOf_194 : decode cX6_twoOf 194 = .ok (.ifCond .eq 7, 3) := by decide +kernel
theorem dX6_twoOf_197 : decode cX6_twoOf 197 = .ok (.iconst 1, 1) := by decide +kernel
theorem dX6_twoOf_198 : decode cX6_twoOf 198 = .ok (.goto 4, 3) := by decide +kernel
theorem dX6_twoOf_201 : decode cX6_twoOf 201 = .ok (.iconst 0, 1) := by decide +kernel
theorem dX6_twoOf_202 : decode cX6_twoOf 202 = .ok (.ireturn, 1) := by decide +kernel
theorem dX6_twoOf_203 : decode cX6_twoOf 203 = .ok (.iload_n 1, 1) := by decide +kernel
theorem dX6_twoOf_204 : decode cX6_twoOf 204 = .ok (.ifCond .ne 7, 3) := by decide +kernel
theorem dX6_twoOf_207 : decode cX6_twoOf 207 = .ok (.iload_n 2, 1) := by decide +kernel
theorem dX6_twoOf_208 : decode cX6_twoOf 208 = .ok (.ifCond .eq 7, 3) := by decide +kernel
theorem dX6_twoOf_211 : decode cX6_twoOf 211 = .ok (.iconst 1, 1) := by decide +kernel
theorem dX6_twoOf_212 : decode cX6_twoOf 212 = .ok (.goto 4, 3) := by decide +kernel
theorem dX6_twoOf_215 : decode cX6_twoOf 215 = .ok (.iconst 0, 1) := by decide +kernel
theorem dX6_twoOf_216 : decode cX6_twoOf 216 = .ok (.ireturn, 1) := by decide +kernel
theorem dX6_works_0 : decode cX6_works 0 = .ok (.iconst 0, 1) := by decide +kernel
theorem dX6_works_1 : decode cX6_works 1 = .ok (.istore_n 2, 1) := by decide +kernel
theorem dX6_works_2 : decode cX6_works 2 = .ok (.iconst 0, 1) := by decide +kernel
theorem dX6_works_3 : decode cX6_works 3 = .ok (.istore_n 3, 1) := by decide +kernel
theorem dX6_works_4 : decode cX6_works 4 = .ok (.iload_n 3, 1) := by decide +kernel
theorem dX6_works_5 : decode cX6_works 5 = .ok (.aload_n 0, 1) := by decide +kernel
theorem dX6_works_6 : decode cX6_works 6 = .ok (.getfield 9, 3) := by decide +kernel
theorem dX6_works_9 : decode cX6_works 9 = .ok (.iload_n 1, 1) := by decide +kernel
theorem dX6_works_10 : decode cX6_works 10 = .ok (.iaload, 1) := by decide +kernel
theorem dX6_works_11 : decode cX6_works 11 = .ok (.if_icmp .ge 144, 3) := by decide +kernel
theorem dX6_works_14 : decode cX6_works 14 = .ok (.aload_n 0, 1) := by decide +kernel
theorem dX6_works_15 : decode cX6_works 15 = .ok (.getfield 9, 3) := by decide +kernel
theorem dX6_works_18 : decode cX6_works 18 = .ok (.iload_n 1, 1) := by decide +kernel
theorem dX6_works_19 : decode cX6_works 19 = .ok (.iconst 1, 1) := by decide +kernel
theorem dX6_works_20 : decode cX6_works 20 = .ok (.iadd, 1) := by decide +kernel
theorem dX6_works_21 : decode cX6_works 21 = .ok (.iload_n 3, 1) := by decide +kernel
theorem dX6_works_22 : decode cX6_works 22 = .ok (.iadd, 1) := by decide +kernel
theorem dX6_works_23 : decode cX6_works 23 = .ok (.iaload, 1) := by decide +kernel
theorem dX6_works_24 : decode cX6_works 24 = .ok (.istore 4, 2) := by decide +kernel
theorem dX6_works_26 : decode cX6_works 26 = .ok (.iload 4, 2) := by decide +kernel
theorem dX6_works_28 : decode cX6_works 28 = .ok (.iconst 1, 1) := by decide +kernel
theorem dX6_works_29 : decode cX6_works 29 = .ok (.if_icmp .eq 9, 3) := by decide +kernel
theorem dX6_works_32 : decode cX6_works 32 = .ok (.iload 4, 2) := by decide +kernel
theorem dX6_works_34 : decode cX6_works 34 = .ok (.iconst 2, 1) := by decide +kernel
theorem dX6_works_35 : decode cX6_works 35 = .ok (.if_icmp .ne 51, 3) := by decide +kernel
theorem dX6_works_38 : decode cX6_works 38 = .ok (.aload_n 0, 1) := by decide +kernel
theorem dX6_works_39 : decode cX6_works 39 = .ok (.getfield 37, 3) := by decide +kernel
theorem dX6_works_42 : decode cX6_works 42 = .ok (.iload_n 2, 1) := by decide +kernel
theorem dX6_works_43 : decode cX6_works 43 = .ok (.iload 4, 2) := by decide +kernel
theorem dX6_works_45 : decode cX6_works 45 = .ok (.iconst 1, 1) := by decide +kernel
theorem dX6_works_46 : decode cX6_works 46 = .ok (.if_icmp .ne 17, 3) := by decide +kernel
theorem dX6_works_49 : decode cX6_works 49 = .ok (.aload_n 0, 1) := by decide +kernel
theorem dX6_works_50 : decode cX6_works 50 = .ok (.getfield 9, 3) := by decide +kernel
theorem dX6_works_53 : decode cX6_works 53 = .ok (.iload_n 1, 1) := by decide +kernel
theorem dX6_works_54 : decode cX6_works 54 = .ok (.bipush 61, 2) := by decide +kernel
theorem dX6_works_56 : decode cX6_works 56 = .ok (.iadd, 1) := by decide +kernel
theorem dX6_works_57 : decode cX6_works 57 = .ok (.iload_n 3, 1) := by decide +kernel
theorem dX6_works_58 : decode cX6_works 58 = .ok (.iadd, 1) := by decide +kernel
theorem dX6_works_59 : decode cX6_works 59 = .ok (.iaload, 1) := by decide +kernel
theorem dX6_works_60 : decode cX6_works 60 = .ok (.goto 19, 3) := by decide +kernel
theorem dX6_works_63 : decode cX6_works 63 = .ok (.aload_n 0, 1) := by decide +kernel
theorem dX6_works_64 : decode cX6_works 64 = .ok (.getfield 34, 3) := by decide +kernel
theorem dX6_works_67 : decode cX6_works 67 = .ok (.aload_n 0, 1) := by decide +kernel
theorem dX6_works_68 : decode cX6_works 68 = .ok (.getfield 9, 3) := by decide +kernel
theorem dX6_works_71 : decode cX6_works 71 = .ok (.iload_n 1, 1) := by decide +kernel
theorem dX6_works_72 : decode cX6_works 72 = .ok (.bipush 61, 2) := by decide +kernel
theorem dX6_works_74 : decode cX6_works 74 = .ok (.iadd, 1) := by decide +kernel
theorem dX6_works_75 : decode cX6_works 75 = .ok (.iload_n 3, 1) := by decide +kernel
theorem dX6_works_76 : decode cX6_works 76 = .ok (.iadd, 1) := by decide +kernel
theorem dX6_works_77 : decode cX6_works 77 = .ok (.iaload, 1) := by decide +kernel
theorem dX6_works_78 : decode cX6_works 78 = .ok (.iaload, 1) := by decide +kernel
theorem dX6_works_79 : decode cX6_works 79 = .ok (.iastore, 1) := by decide +kernel
theorem dX6_works_80 : decode cX6_works 80 = .ok (.iinc 2 1, 3) := by decide +kernel
theorem dX6_works_83 : decode cX6_works 83 = .ok (.goto 66, 3) := by decide +kernel
theorem dX6_works_86 : decode cX6_works 86 = .ok (.iload 4, 2) := by decide +kernel
theorem dX6_works_88 : decode cX6_works 88 = .ok (.iconst 3, 1) := by decide +kernel
theorem dX6_works_89 : decode cX6_works 89 = .ok (.if_icmp .ne 30, 3) := by decide +kernel
theorem dX6_works_92 : decode cX6_works 92 = .ok (.aload_n 0, 1) := by decide +kernel
theorem dX6_works_93 : decode cX6_works 93 = .ok (.getfield 37, 3) := by decide +kernel
theorem dX6_works_96 : decode cX6_works 96 = .ok (.iload_n 2, 1) := by decide +kernel
theorem dX6_works_97 : decode cX6_works 97 = .ok (.iconst 1, 1) := by decide +kernel
theorem dX6_works_98 : decode cX6_works 98 = .ok (.isub, 1) := by decide +kernel
theorem dX6_works_99 : decode cX6_works 99 = .ok (.aload_n 0, 1) := by decide +kernel
theorem dX6_works_100 : decode cX6_works 100 = .ok (.getfield 37, 3) := by decide +kernel
theorem dX6_works_103 : decode cX6_works 103 = .ok (.iload_n 2, 1) := by decide +kernel
theorem dX6_works_104 : decode cX6_works 104 = .ok (.iconst 1, 1) := by decide +kernel
theorem dX6_works_105 : decode cX6_works 105 = .ok (.isub, 1) := by decide +kernel
theorem dX6_works_106 : decode cX6_works 106 = .ok (.iaload, 1) := by decide +kernel
theorem dX6_works_107 : decode cX6_works 107 = .ok (.ifCond .ne 7, 3) := by decide +kernel
theorem dX6_works_110 : decode cX6_works 110 = .ok (.iconst 1, 1) := by decide +kernel
theorem dX6_works_111 : decode cX6_works 111 = .ok (.goto 4, 3) := by decide +kernel
theorem dX6_works_114 : decode cX6_works 114 = .ok (.iconst 0, 1) := by decide +kernel
theorem dX6_works_115 : decode cX6_works 115 = .ok (.iastore, 1) := by decide +kernel
theorem dX6_works_116 : decode cX6_works 116 = .ok (.goto 33, 3) := by decide +kernel
theorem dX6_works_119 : decode cX6_works 119 = .ok (.iinc 2 (-1), 3) := by decide +kernel
theorem dX6_works_122 : decode cX6_works 122 = .ok (.aload_n 0, 1) := by decide +kernel
theorem dX6_works_123 : decode cX6_works 123 = .ok (.getfield 37, 3) := by decide +kernel
theorem dX6_works_126 : decode cX6_works 126 = .ok (.iload_n 2, 1) := by decide +kernel
theorem dX6_works_127 : decode cX6_works 127 = .ok (.iconst 1, 1) := by decide +kernel
theorem dX6_works_128 : decode cX6_works 128 = .ok (.isub, 1) := by decide +kernel
theorem dX6_works_129 : decode cX6_works 129 = .ok (.iload 4, 2) := by decide +kernel
theorem dX6_works_131 : decode cX6_works 131 = .ok (.aload_n 0, 1) := by decide +kernel
theorem dX6_works_132 : decode cX6_works 132 = .ok (.getfield 37, 3) := by decide +kernel
theorem dX6_works_135 : decode cX6_works 135 = .ok (.iload_n 2, 1) := by decide +kernel
theorem dX6_works_136 : decode cX6_works 136 = .ok (.iconst 1, 1) := by decide +kernel
theorem dX6_works_137 : decode cX6_works 137 = .ok (.isub, 1) := by decide +kernel
theorem dX6_works_138 : decode cX6_works 138 = .ok (.iaload, 1) := by decide +kernel
theorem dX6_works_139 : decode cX6_works 139 = .ok (.aload_n 0, 1) := by decide +kernel
theorem dX6_works_140 : decode cX6_works 140 = .ok (.getfield 37, 3) := by decide +kernel
theorem dX6_works_143 : decode cX6_works 143 = .ok (.iload_n 2, 1) := by decide +kernel
theorem dX6_works_144 : decode cX6_works 144 = .ok (.iaload, 1) := by decide +kernel
theorem dX6_works_145 : decode cX6_works 145 = .ok (.invokestatic 160, 3) := by decide +kernel
theorem dX6_works_148 : decode cX6_works 148 = .ok (.iastore, 1) := by decide +kernel
theorem dX6_works_149 : decode cX6_works 149 = .ok (.iinc 3 1, 3) := by decide +kernel
theorem dX6_works_152 : decode cX6_works 152 = .ok (.goto (-148), 3) := by decide +kernel
theorem dX6_works_155 : decode cX6_works 155 = .ok (.aload_n 0, 1) := by decide +kernel
theorem dX6_works_156 : decode cX6_works 156 = .ok (.getfield 37, 3) := by decide +kernel
theorem dX6_works_159 : decode cX6_works 159 = .ok (.iconst 0, 1) := by decide +kernel
theorem dX6_works_160 : decode cX6_works 160 = .ok (.iaload, 1) := by decide +kernel
theorem dX6_works_161 : decode cX6_works 161 = .ok (.ireturn, 1) := by decide +kernel
theorem dX6_gives_0 : decode cX6_gives 0 = .ok (.sipush 159, 3) := by decide +kernel
theorem dX6_gives_3 : decode cX6_gives 3 = .ok (.bipush 121, 2) := by decide +kernel
theorem dX6_gives_5 : decode cX6_gives 5 = .ok (.iload_n 1, 1) := by decide +kernel
theorem dX6_gives_6 : decode cX6_gives 6 = .ok (.imul, 1) := by decide +kernel
theorem dX6_gives_7 : decode cX6_gives 7 = .ok (.iadd, 1) := by decide +kernel
theorem dX6_gives_8 : decode cX6_gives 8 = .ok (.istore 5, 2) := by decide +kernel
theorem dX6_gives_10 : decode cX6_gives 10 = .ok (.aload_n 0, 1) := by decide +kernel
theorem dX6_gives_11 : decode cX6_gives 11 = .ok (.getfield 34, 3) := by decide +kernel
theorem dX6_gives_14 : decode cX6_gives 14 = .ok (.iconst 0, 1) := by decide +kernel
theorem dX6_gives_15 : decode cX6_gives 15 = .ok (.iload_n 2, 1) := by decide +kernel
theorem dX6_gives_16 : decode cX6_gives 16 = .ok (.iastore, 1) := by decide +kernel
theorem dX6_gives_17 : decode cX6_gives 17 = .ok (.aload_n 0, 1) := by decide +kernel
theorem dX6_gives_18 : decode cX6_gives 18 = .ok (.getfield 34, 3) := by decide +kernel
theorem dX6_gives_21 : decode cX6_gives 21 = .ok (.iconst 1, 1) := by decide +kernel
theorem dX6_gives_22 : decode cX6_gives 22 = .ok (.iload_n 3, 1) := by decide +kernel
theorem dX6_gives_23 : decode cX6_gives 23 = .ok (.iastore, 1) := by decide +kernel
theorem dX6_gives_24 : decode cX6_gives 24 = .ok (.aload_n 0, 1) := by decide +kernel
theorem dX6_gives_25 : decode cX6_gives 25 = .ok (.getfield 34, 3) := by decide +kernel
theorem dX6_gives_28 : decode cX6_gives 28 = .ok (.iconst 2, 1) := by decide +kernel
theorem dX6_gives_29 : decode cX6_gives 29 = .ok (.iload 4, 2) := by decide +kernel
theorem dX6_gives_31 : decode cX6_gives 31 = .ok (.iastore, 1) := by decide +kernel
theorem dX6_gives_32 : decode cX6_gives 32 = .ok (.aload_n 0, 1) := by decide +kernel
theorem dX6_gives_33 : decode cX6_gives 33 = .ok (.getfield 9, 3) := by decide +kernel
theorem dX6_gives_36 : decode cX6_gives 36 = .ok (.iload 5, 2) := by decide +kernel
theorem dX6_gives_38 : decode cX6_gives 38 = .ok (.iaload, 1) := by decide +kernel
theorem dX6_gives_39 : decode cX6_gives 39 = .ok (.ifCond .le 12, 3) := by decide +kernel
theorem dX6_gives_42 : decode cX6_gives 42 = .ok (.aload_n 0, 1) := by decide +kernel
theorem dX6_gives_43 : decode cX6_gives 43 = .ok (.iload 5, 2) := by decide +kernel
theorem dX6_gives_45 : decode cX6_gives 45 = .ok (.invokevirtual 164, 3) := by decide +kernel
theorem dX6_gives_48 : decode cX6_gives 48 = .ok (.goto 4, 3) := by decide +kernel
theorem dX6_gives_51 : decode cX6_gives 51 = .ok (.iload_n 2, 1) := by decide +kernel
theorem dX6_gives_52 : decode cX6_gives 52 = .ok (.istore 6, 2) := by decide +kernel
theorem dX6_gives_54 : decode cX6_gives 54 = .ok (.iload_n 1, 1) := by decide +kernel
theorem dX6_gives_55 : decode cX6_gives 55 = .ok (.ifCond .ne 14, 3) := by decide +kernel
theorem dX6_gives_58 : decode cX6_gives 58 = .ok (.iload 6, 2) := by decide +kernel
theorem dX6_gives_60 : decode cX6_gives 60 = .ok (.iconst 1, 1) := by decide +kernel
theorem dX6_gives_61 : decode cX6_gives 61 = .ok (.bipush 99, 2) := by decide +kernel
theorem dX6_gives_63 : decode cX6_gives 63 = .ok (.invokestatic 167, 3) := by decide +kernel
theorem dX6_gives_66 : decode cX6_gives 66 = .ok (.goto 11, 3) := by decide +kernel
theorem dX6_gives_69 : decode cX6_gives 69 = .ok (.iload 6, 2) := by decide +kernel
theorem dX6_gives_71 : decode cX6_gives 71 = .ok (.iconst 1, 1) := by decide +kernel
theorem dX6_gives_72 : decode cX6_gives 72 = .ok (.bipush 20, 2) := by decide +kernel
theorem dX6_gives_74 : decode cX6_gives 74 = .ok (.invokestatic 167, 3) := by decide +kernel
theorem dX6_gives_77 : decode cX6_gives 77 = .ok (.ireturn, 1) := by decide +kernel
theorem dX6_law_0 : decode cX6_law 0 = .ok (.iload_n 1, 1) := by decide +kernel
theorem dX6_law_1 : decode cX6_law 1 = .ok (.iconst 0, 1) := by decide +kernel
theorem dX6_law_2 : decode cX6_law 2 = .ok (.iconst 1, 1) := by decide +kernel
theorem dX6_law_3 : decode cX6_law 3 = .ok (.invokestatic 53, 3) := by decide +kernel
theorem dX6_law_6 : decode cX6_law 6 = .ok (.ifCond .eq 15, 3) := by decide +kernel
theorem dX6_law_9 : decode cX6_law 9 = .ok (.aload_n 0, 1) := by decide +kernel
theorem dX6_law_10 : decode cX6_law 10 = .ok (.iload_n 1, 1) := by decide +kernel
theorem dX6_law_11 : decode cX6_law 11 = .ok (.iload_n 2, 1) := by decide +kernel
theorem dX6_law_12 : decode cX6_law 12 = .ok (.iload_n 3, 1) := by decide +kernel
theorem dX6_law_13 : decode cX6_law 13 = .ok (.iload 4, 2) := by decide +kernel
theorem dX6_law_15 : decode cX6_law 15 = .ok (.invokevirtual 64, 3) := by decide +kernel
theorem dX6_law_18 : decode cX6_law 18 = .ok (.goto 9, 3) := by decide +kernel
theorem dX6_law_21 : decode cX6_law 21 = .ok (.aload_n 0, 1) := by decide +kernel
theorem dX6_law_22 : decode cX6_law 22 = .ok (.ldc 75, 2) := by decide +kernel
theorem dX6_law_24 : decode cX6_law 24 = .ok (.invokevirtual 76, 3) := by decide +kernel
theorem dX6_law_27 : decode cX6_law 27 = .ok (.ireturn, 1) := by decide +kernel
theorem dX6_findSlow_0 : decode cX6_findSlow 0 = .ok (.iconst 0, 1) := by decide +kernel
theorem dX6_findSlow_1 : decode cX6_findSlow 1 = .ok (.istore_n 1, 1) := by decide +kernel
theorem dX6_findSlow_2 : decode cX6_findSlow 2 = .ok (.iload_n 1, 1) := by decide +kernel
theorem dX6_findSlow_3 : decode cX6_findSlow 3 = .ok (.aload_n 0, 1) := by decide +kernel
theorem dX6_findSlow_4 : decode cX6_findSlow 4 = .ok (.getfield 9, 3) := by decide +kernel
theorem dX6_findSlow_7 : decode cX6_findSlow 7 = .ok (.iconst 3, 1) := by decide +kernel
theorem dX6_findSlow_8 : decode cX6_findSlow 8 = .ok (.iaload, 1) := by decide +kernel
theorem dX6_findSlow_9 : decode cX6_findSlow 9 = .ok (.if_icmp .ge 20, 3) := by decide +kernel
theorem dX6_findSlow_12 : decode cX6_findSlow 12 = .ok (.aload_n 0, 1) := by decide +kernel
theorem dX6_findSlow_13 : decode cX6_findSlow 13 = .ok (.getfield 46, 3) := by decide +kernel
theorem dX6_findSlow_16 : decode cX6_findSlow 16 = .ok (.iload_n 1, 1) := by decide +kernel
theorem dX6_findSlow_17 : decode cX6_findSlow 17 = .ok (.aload_n 0, 1) := by decide +kernel
theorem dX6_findSlow_18 : decode cX6_findSlow 18 = .ok (.iload_n 1, 1) := by decide +kernel
theorem dX6_findSlow_19 : decode cX6_findSlow 19 = .ok (.invokevirtual 102, 3) := by decide +kernel
theorem dX6_findSlow_22 : decode cX6_findSlow 22 = .ok (.iastore, 1) := by decide +kernel
theorem dX6_findSlow_23 : decode cX6_findSlow 23 = .ok (.iinc 1 1, 3) := by decide +kernel
theorem dX6_findSlow_26 : decode cX6_findSlow 26 = .ok (.goto (-24), 3) := by decide +kernel
theorem dX6_findSlow_29 : decode cX6_findSlow 29 = .ok (.return_, 1) := by decide +kernel
theorem dX6_opened_0 : decode cX6_opened 0 = .ok (.iconst 0, 1) := by decide +kernel
theorem dX6_opened_1 : decode cX6_opened 1 = .ok (.istore_n 1, 1) := by decide +kernel
theorem dX6_opened_2 : decode cX6_opened 2 = .ok (.iconst 0, 1) := by decide +kernel
theorem dX6_opened_3 : decode cX6_opened 3 = .ok (.istore_n 2, 1) := by decide +kernel
theorem dX6_opened_4 : decode cX6_opened 4 = .ok (.iload_n 2, 1) := by decide +kernel
theorem dX6_opened_5 : decode cX6_opened 5 = .ok (.aload_n 0, 1) := by decide +kernel
theorem dX6_opened_6 : decode cX6_opened 6 = .ok (.getfield 9, 3) := by decide +kernel
theorem dX6_opened_9 : decode cX6_opened 9 = .ok (.iconst 3, 1) := by decide +kernel
theorem dX6_opened_10 : decode cX6_opened 10 = .ok (.iaload, 1) := by decide +kernel
theorem dX6_opened_11 : decode cX6_opened 11 = .ok (.if_icmp .ge 20, 3) := by decide +kernel
theorem dX6_opened_14 : decode cX6_opened 14 = .ok (.iload_n 1, 1) := by decide +kernel
theorem dX6_opened_15 : decode cX6_opened 15 = .ok (.aload_n 0, 1) := by decide +kernel
theorem dX6_opened_16 : decode cX6_opened 16 = .ok (.iload_n 2, 1) := by decide +kernel
theorem dX6_opened_17 : decode cX6_opened 17 = .ok (.iconst 3, 1) := by decide +kernel
theorem dX6_opened_18 : decode cX6_opened 18 = .ok (.invokevirtual 68, 3) := by decide +kernel
theorem dX6_opened_21 : decode cX6_opened 21 = .ok (.iload_n 2, 1) := by decide +kernel
theorem dX6_opened_22 : decode cX6_opened 22 = .ok (.ishl, 1) := by decide +kernel
theorem dX6_opened_23 : decode cX6_opened 23 = .ok (.ior, 1) := by decide +kernel
theorem dX6_opened_24 : decode cX6_opened 24 = .ok (.istore_n 1, 1) := by decide +kernel
theorem dX6_opened_25 : decode cX6_opened 25 = .ok (.iinc 2 1, 3) := by decide +kernel
theorem dX6_opened_28 : decode cX6_opened 28 = .ok (.goto (-24), 3) := by decide +kernel
theorem dX6_opened_31 : decode cX6_opened 31 = .ok (.iload_n 1, 1) := by decide +kernel
theorem dX6_opened_32 : decode cX6_opened 32 = .ok (.ireturn, 1) := by decide +kernel
theorem dX6_saysOn_0 : decode cX6_saysOn 0 = .ok (.aload_n 0, 1) := by decide +kernel
theorem dX6_saysOn_1 : decode cX6_saysOn 1 = .ok (.iload_n 1, 1) := by decide +kernel
theorem dX6_saysOn_2 : decode cX6_saysOn 2 = .ok (.aload_n 0, 1) := by decide +kernel
theorem dX6_saysOn_3 : decode cX6_saysOn 3 = .ok (.getfield 43, 3) := by decide +kernel
theorem dX6_saysOn_6 : decode cX6_saysOn 6 = .ok (.iload_n 1, 1) := by decide +kernel
theorem dX6_saysOn_7 : decode cX6_saysOn 7 = .ok (.iaload, 1) := by decide +kernel
theorem dX6_saysOn_8 : decode cX6_saysOn 8 = .ok (.invokevirtual 91, 3) := by decide +kernel
theorem dX6_saysOn_11 : decode cX6_saysOn 11 = .ok (.istore_n 3, 1) := by decide +kernel
theorem dX6_saysOn_12 : decode cX6_saysOn 12 = .ok (.iconst 0, 1) := by decide +kernel
theorem dX6_saysOn_13 : decode cX6_saysOn 13 = .ok (.istore 4, 2) := by decide +kernel
theorem dX6_saysOn_15 : decode cX6_saysOn 15 = .ok (.iload 4, 2) := by decide +kernel
theorem dX6_saysOn_17 : decode cX6_saysOn 17 = .ok (.aload_n 0, 1) := by decide +kernel
theorem dX6_saysOn_18 : decode cX6_saysOn 18 = .ok (.getfield 9, 3) := by decide +kernel
theorem dX6_saysOn_21 : decode cX6_saysOn 21 = .ok (.iconst 3, 1) := by decide +kernel
theorem dX6_saysOn_22 : decode cX6_saysOn 22 = .ok (.iaload, 1) := by decide +kernel
theorem dX6_saysOn_23 : decode cX6_saysOn 23 = .ok (.if_icmp .ge 154, 3) := by decide +kernel
theorem dX6_saysOn_26 : decode cX6_saysOn 26 = .ok (.aload_n 0, 1) := by decide +kernel
theorem dX6_saysOn_27 : decode cX6_saysOn 27 = .ok (.iload 4, 2) := by decide +kernel
theorem dX6_saysOn_29 : decode cX6_saysOn 29 = .ok (.iconst 0, 1) := by decide +kernel
theorem dX6_saysOn_30 : decode cX6_saysOn 30 = .ok (.invokevirtual 68, 3) := by decide +kernel
theorem dX6_saysOn_33 : decode cX6_saysOn 33 = .ok (.iload_n 1, 1) := by decide +kernel
theorem dX6_saysOn_34 : decode cX6_saysOn 34 = .ok (.if_icmp .ne 137, 3) := by decide +kernel
theorem dX6_saysOn_37 : decode cX6_saysOn 37 = .ok (.iload_n 2, 1) := by decide +kernel
theorem dX6_saysOn_38 : decode cX6_saysOn 38 = .ok (.iload 4, 2) := by decide +kernel
theorem dX6_saysOn_40 : decode cX6_saysOn 40 = .ok (.ishr, 1) := by decide +kernel
theorem dX6_saysOn_41 : decode cX6_saysOn 41 = .ok (.iconst 1, 1) := by decide +kernel
theorem dX6_saysOn_42 : decode cX6_saysOn 42 = .ok (.iand, 1) := by decide +kernel
theorem dX6_saysOn_43 : decode cX6_saysOn 43 = .ok (.iconst 1, 1) := by decide +kernel
theorem dX6_saysOn_44 : decode cX6_saysOn 44 = .ok (.if_icmp .ne 127, 3) := by decide +kernel
theorem dX6_saysOn_47 : decode cX6_saysOn 47 = .ok (.aload_n 0, 1) := by decide +kernel
theorem dX6_saysOn_48 : decode cX6_saysOn 48 = .ok (.iload 4, 2) := by decide +kernel
theorem dX6_saysOn_50 : decode cX6_saysOn 50 = .ok (.iconst 1, 1) := by decide +kernel
theorem dX6_saysOn_51 : decode cX6_saysOn 51 = .ok (.invokevirtual 68, 3) := by decide +kernel
theorem dX6_saysOn_54 : decode cX6_saysOn 54 = .ok (.istore 5, 2) := by decide +kernel
theorem dX6_saysOn_56 : decode cX6_saysOn 56 = .ok (.aload_n 0, 1) := by decide +kernel
theorem dX6_saysOn_57 : decode cX6_saysOn 57 = .ok (.getfield 40, 3) := by decide +kernel
theorem dX6_saysOn_60 : decode cX6_saysOn 60 = .ok (.iload_n 1, 1) := by decide +kernel
theorem dX6_saysOn_61 : decode cX6_saysOn 61 = .ok (.iaload, 1) := by decide +kernel
theorem dX6_saysOn_62 : decode cX6_saysOn 62 = .ok (.aload_n 0, 1) := by decide +kernel
theorem dX6_saysOn_63 : decode cX6_saysOn 63 = .ok (.getfield 46, 3) := by decide +kernel
theorem dX6_saysOn_66 : decode cX6_saysOn 66 = .ok (.iload 4, 2) := by decide +kernel
theorem dX6_saysOn_68 : decode cX6_saysOn 68 = .ok (.iaload, 1) := by decide +kernel
theorem dX6_saysOn_69 : decode cX6_saysOn 69 = .ok (.iadd, 1) := by decide +kernel
theorem dX6_saysOn_70 : decode cX6_saysOn 70 = .ok (.istore 6, 2) := by decide +kernel
theorem dX6_saysOn_72 : decode cX6_saysOn 72 = .ok (.aload_n 0, 1) := by decide +kernel
theorem dX6_saysOn_73 : decode cX6_saysOn 73 = .ok (.getfield 40, 3) := by decide +kernel
theorem dX6_saysOn_76 : decode cX6_saysOn 76 = .ok (.iload 5, 2) := by decide +kernel
theorem dX6_saysOn_78 : decode cX6_saysOn 78 = .ok (.iaload, 1) := by decide +kernel
theorem dX6_saysOn_79 : decode cX6_saysOn 79 = .ok (.ifCond .lt 15, 3) := by decide +kernel
theorem dX6_saysOn_82 : decode cX6_saysOn 82 = .ok (.iload 6, 2) := by decide +kernel
theorem dX6_saysOn_84 : decode cX6_saysOn 84 = .ok (.aload_n 0, 1) := by decide +kernel
theorem dX6_saysOn_85 : decode cX6_saysOn 85 = .ok (.getfield 40, 3) := by decide +kernel
theorem dX6_saysOn_88 : decode cX6_saysOn 88 = .ok (.iload 5, 2) := by decide +kernel
theorem dX6_saysOn_90 : decode cX6_saysOn 90 = .ok (.iaload, 1) := by decide +kernel
theorem dX6_saysOn_91 : decode cX6_saysOn 91 = .ok (.if_icmp .ge 7, 3) := by decide +kernel
theorem dX6_saysOn_94 : decode cX6_saysOn 94 = .ok (.iconst 1, 1) := by decide +kernel
theorem dX6_saysOn_95 : decode cX6_saysOn 95 = .ok (.goto 4, 3) := by decide +kernel
theorem dX6_saysOn_98 : decode cX6_saysOn 98 = .ok (.iconst 0, 1) := by decide +kernel
theorem dX6_saysOn_99 : decode cX6_saysOn 99 = .ok (.istore 7, 2) := by decide +kernel
theorem dX6_saysOn_101 : decode cX6_saysOn 101 = .ok (.aload_n 0, 1) := by decide +kernel
theorem dX6_saysOn_102 : decode cX6_saysOn 102 = .ok (.getfield 43, 3) := by decide +kernel
theorem dX6_saysOn_105 : decode cX6_saysOn 105 = .ok (.iload 5, 2) := by decide +kernel
theorem dX6_saysOn_107 : decode cX6_saysOn 107 = .ok (.iload 7, 2) := by decide +kernel
theorem dX6_saysOn_109 : decode cX6_saysOn 109 = .ok (.ifCond .ne 26, 3) := by decide +kernel
theorem dX6_saysOn_112 : decode cX6_saysOn 112 = .ok (.iload 6, 2) := by decide +kernel
theorem dX6_saysOn_114 : decode cX6_saysOn 114 = .ok (.aload_n 0, 1) := by decide +kernel
theorem dX6_saysOn_115 : decode cX6_saysOn 115 = .ok (.getfield 40, 3) := by decide +kernel
theorem dX6_saysOn_118 : decode cX6_saysOn 118 = .ok (.iload 5, 2) := by decide +kernel
theorem dX6_saysOn_120 : decode cX6_saysOn 120 = .ok (.iaload, 1) := by decide +kernel
theorem dX6_saysOn_121 : decode cX6_saysOn 121 = .ok (.if_icmp .ne 18, 3) := by decide +kernel
theorem dX6_saysOn_124 : decode cX6_saysOn 124 = .ok (.iload_n 3, 1) := by decide +kernel
theorem dX6_saysOn_125 : decode cX6_saysOn 125 = .ok (.aload_n 0, 1) := by decide +kernel
theorem dX6_saysOn_126 : decode cX6_saysOn 126 = .ok (.getfield 43, 3) := by decide +kernel
theorem dX6_saysOn_129 : decode cX6_saysOn 129 = .ok (.iload 5, 2) := by decide +kernel
theorem dX6_saysOn_131 : decode cX6_saysOn 131 = .ok (.iaload, 1) := by decide +kernel
theorem dX6_saysOn_132 : decode cX6_saysOn 132 = .ok (.if_icmp .le 7, 3) := by decide +kernel
theorem dX6_saysOn_135 : decode cX6_saysOn 135 = .ok (.iload_n 3, 1) := by decide +kernel
theorem dX6_saysOn_136 : decode cX6_saysOn 136 = .ok (.goto 10, 3) := by decide +kernel
theorem dX6_saysOn_139 : decode cX6_saysOn 139 = .ok (.aload_n 0, 1) := by decide +kernel
theorem dX6_saysOn_140 : decode cX6_saysOn 140 = .ok (.getfield 43, 3) := by decide +kernel
theorem dX6_saysOn_143 : decode cX6_saysOn 143 = .ok (.iload 5, 2) := by decide +kernel
theorem dX6_saysOn_145 : decode cX6_saysOn 145 = .ok (.iaload, 1) := by decide +kernel
theorem dX6_saysOn_146 : decode cX6_saysOn 146 = .ok (.iastore, 1) := by decide +kernel
theorem dX6_saysOn_147 : decode cX6_saysOn 147 = .ok (.aload_n 0, 1) := by decide +kernel
theorem dX6_saysOn_148 : decode cX6_saysOn 148 = .ok (.getfield 40, 3) := by decide +kernel
theorem dX6_saysOn_151 : decode cX6_saysOn 151 = .ok (.iload 5, 2) := by decide +kernel
theorem dX6_saysOn_153 : decode cX6_saysOn 153 = .ok (.iload 7, 2) := by decide +kernel
theorem dX6_saysOn_155 : decode cX6_saysOn 155 = .ok (.ifCond .eq 8, 3) := by decide +kernel
theorem dX6_saysOn_158 : decode cX6_saysOn 158 = .ok (.iload 6, 2) := by decide +kernel
theorem dX6_saysOn_160 : decode cX6_saysOn 160 = .ok (.goto 10, 3) := by decide +kernel
theorem dX6_saysOn_163 : decode cX6_saysOn 163 = .ok (.aload_n 0, 1) := by decide +kernel
theorem dX6_saysOn_164 : decode cX6_saysOn 164 = .ok (.getfield 40, 3) := by decide +kernel
theorem dX6_saysOn_167 : decode cX6_saysOn 167 = .ok (.iload 5, 2) := by decide +kernel
theorem dX6_saysOn_169 : decode cX6_saysOn 169 = .ok (.iaload, 1) := by decide +kernel
theorem dX6_saysOn_170 : decode cX6_saysOn 170 = .ok (.iastore, 1) := by decide +kernel
theorem dX6_saysOn_171 : decode cX6_saysOn 171 = .ok (.iinc 4 1, 3) := by decide +kernel
theorem dX6_saysOn_174 : decode cX6_saysOn 174 = .ok (.goto (-159), 3) := by decide +kernel
theorem dX6_saysOn_177 : decode cX6_saysOn 177 = .ok (.return_, 1) := by decide +kernel
theorem dX6_spreads_0 : decode cX6_spreads 0 = .ok (.iconst 0, 1) := by decide +kernel
theorem dX6_spreads_1 : decode cX6_spreads 1 = .ok (.istore 4, 2) := by decide +kernel
theorem dX6_spreads_3 : decode cX6_spreads 3 = .ok (.iload 4, 2) := by decide +kernel
theorem dX6_spreads_5 : decode cX6_spreads 5 = .ok (.bipush 8, 2) := by decide +kernel
theorem dX6_spreads_7 : decode cX6_spreads 7 = .ok (.if_icmp .ge 45, 3) := by decide +kernel
theorem dX6_spreads_10 : decode cX6_spreads 10 = .ok (.aload_n 0, 1) := by decide +kernel
theorem dX6_spreads_11 : decode cX6_spreads 11 = .ok (.getfield 40, 3) := by decide +kernel
theorem dX6_spreads_14 : decode cX6_spreads 14 = .ok (.iload 4, 2) := by decide +kernel
theorem dX6_spreads_16 : decode cX6_spreads 16 = .ok (.iload 4, 2) := by decide +kernel
theorem dX6_spreads_18 : decode cX6_spreads 18 = .ok (.iload_n 1, 1) := by decide +kernel
theorem dX6_spreads_19 : decode cX6_spreads 19 = .ok (.if_icmp .ne 7, 3) := by decide +kernel
theorem dX6_spreads_22 : decode cX6_spreads 22 = .ok (.iconst 0, 1) := by decide +kernel
theorem dX6_spreads_23 : decode cX6_spreads 23 = .ok (.goto 4, 3) := by decide +kernel
theorem dX6_spreads_26 : decode cX6_spreads 26 = .ok (.iconst (-1), 1) := by decide +kernel
theorem dX6_spreads_27 : decode cX6_spreads 27 = .ok (.iastore, 1) := by decide +kernel
theorem dX6_spreads_28 : decode cX6_spreads 28 = .ok (.aload_n 0, 1) := by decide +kernel
theorem dX6_spreads_29 : decode cX6_spreads 29 = .ok (.getfield 43, 3) := by decide +kernel
theorem dX6_spreads_32 : decode cX6_spreads 32 = .ok (.iload 4, 2) := by decide +kernel
theorem dX6_spreads_34 : decode cX6_spreads 34 = .ok (.iload 4, 2) := by decide +kernel
theorem dX6_spreads_36 : decode cX6_spreads 36 = .ok (.iload_n 1, 1) := by decide +kernel
theorem dX6_spreads_37 : decode cX6_spreads 37 = .ok (.if_icmp .ne 7, 3) := by decide +kernel
theorem dX6_spreads_40 : decode cX6_spreads 40 = .ok (.iload_n 2, 1) := by decide +kernel
theorem dX6_spreads_41 : decode cX6_spreads 41 = .ok (.goto 4, 3) := by decide +kernel
theorem dX6_spreads_44 : decode cX6_spreads 44 = .ok (.iconst 0, 1) := by decide +kernel
theorem dX6_spreads_45 : decode cX6_spreads 45 = .ok (.iastore, 1) := by decide +kernel
theorem dX6_spreads_46 : decode cX6_spreads 46 = .ok (.iinc 4 1, 3) := by decide +kernel
theorem dX6_spreads_49 : decode cX6_spreads 49 = .ok (.goto (-46), 3) := by decide +kernel
theorem dX6_spreads_52 : decode cX6_spreads 52 = .ok (.aload_n 0, 1) := by decide +kernel
theorem dX6_spreads_53 : decode cX6_spreads 53 = .ok (.iload_n 1, 1) := by decide +kernel
theorem dX6_spreads_54 : decode cX6_spreads 54 = .ok (.iconst 2, 1) := by decide +kernel
theorem dX6_spreads_55 : decode cX6_spreads 55 = .ok (.invokevirtual 57, 3) := by decide +kernel
theorem dX6_spreads_58 : decode cX6_spreads 58 = .ok (.istore 4, 2) := by decide +kernel
theorem dX6_spreads_60 : decode cX6_spreads 60 = .ok (.iload 4, 2) := by decide +kernel
theorem dX6_spreads_62 : decode cX6_spreads 62 = .ok (.ifCond .lt 74, 3) := by decide +kernel
theorem dX6_spreads_65 : decode cX6_spreads 65 = .ok (.iconst 0, 1) := by decide +kernel
theorem dX6_spreads_66 : decode cX6_spreads 66 = .ok (.istore 5, 2) := by decide +kernel
theorem dX6_spreads_68 : decode cX6_spreads 68 = .ok (.iload 5, 2) := by decide +kernel
theorem dX6_spreads_70 : decode cX6_spreads 70 = .ok (.aload_n 0, 1) := by decide +kernel
theorem dX6_spreads_71 : decode cX6_spreads 71 = .ok (.getfield 9, 3) := by decide +kernel
theorem dX6_spreads_74 : decode cX6_spreads 74 = .ok (.iconst 2, 1) := by decide +kernel
theorem dX6_spreads_75 : decode cX6_spreads 75 = .ok (.iaload, 1) := by decide +kernel
theorem dX6_spreads_76 : decode cX6_spreads 76 = .ok (.if_icmp .ge 54, 3) := by decide +kernel
theorem dX6_spreads_79 : decode cX6_spreads 79 = .ok (.aload_n 0, 1) := by decide +kernel
theorem dX6_spreads_80 : decode cX6_spreads 80 = .ok (.iload 5, 2) := by decide +kernel
theorem dX6_spreads_82 : decode cX6_spreads 82 = .ok (.iconst 2, 1) := by decide +kernel
theorem dX6_spreads_83 : decode cX6_spreads 83 = .ok (.invokevirtual 57, 3) := by decide +kernel
theorem dX6_spreads_86 : decode cX6_spreads 86 = .ok (.iload 4, 2) := by decide +kernel
theorem dX6_spreads_88 : decode cX6_spreads 88 = .ok (.if_icmp .ne 36, 3) := by decide +kernel
theorem dX6_spreads_91 : decode cX6_spreads 91 = .ok (.aload_n 0, 1) := by decide +kernel
theorem dX6_spreads_92 : decode cX6_spreads 92 = .ok (.getfield 40, 3) := by decide +kernel
theorem dX6_spreads_95 : decode cX6_spreads 95 = .ok (.iload 5, 2) := by decide +kernel
theorem dX6_spreads_97 : decode cX6_spreads 97 = .ok (.iaload, 1) := by decide +kernel
theorem dX6_spreads_98 : decode cX6_spreads 98 = .ok (.ifCond .lt 26, 3) := by decide +kernel
theorem dX6_spreads_101 : decode cX6_spreads 101 = .ok (.aload_n 0, 1) := by decide +kernel
theorem dX6_spreads_102 : decode cX6_spreads 102 = .ok (.iload 5, 2) := by decide +kernel
theorem dX6_spreads_104 : decode cX6_spreads 104 = .ok (.aload_n 0, 1) := by decide +kernel
theorem dX6_spreads_105 : decode cX6_spreads 105 = .ok (.getfield 43, 3) := by decide +kernel
theorem dX6_spreads_108 : decode cX6_spreads 108 = .ok (.iload 5, 2) := by decide +kernel
theorem dX6_spreads_110 : decode cX6_spreads 110 = .ok (.iaload, 1) := by decide +kernel
theorem dX6_spreads_111 : decode cX6_spreads 111 = .ok (.invokevirtual 94, 3) := by decide +kernel
theorem dX6_spreads_114 : decode cX6_spreads 114 = .ok (.ifCond .eq 10, 3) := by decide +kernel
theorem dX6_spreads_117 : decode cX6_spreads 117 = .ok (.aload_n 0, 1) := by decide +kernel
theorem dX6_spreads_118 : decode cX6_spreads 118 = .ok (.iload 5, 2) := by decide +kernel
theorem dX6_spreads_120 : decode cX6_spreads 120 = .ok (.iload_n 3, 1) := by decide +kernel
theorem dX6_spreads_121 : decode cX6_spreads 121 = .ok (.invokevirtual 170, 3) := by decide +kernel
theorem dX6_spreads_124 : decode cX6_spreads 124 = .ok (.iinc 5 1, 3) := by decide +kernel
theorem dX6_spreads_127 : decode cX6_spreads 127 = .ok (.goto (-59), 3) := by decide +kernel
theorem dX6_spreads_130 : decode cX6_spreads 130 = .ok (.iinc 4 (-1), 3) := by decide +kernel
theorem dX6_spreads_133 : decode cX6_spreads 133 = .ok (.goto (-73), 3) := by decide +kernel
theorem dX6_spreads_136 : decode cX6_spreads 136 = .ok (.return_, 1) := by decide +kernel
theorem dX6_hearers_0 : decode cX6_hearers 0 = .ok (.iconst 0, 1) := by decide +kernel
theorem dX6_hearers_1 : decode cX6_hearers 1 = .ok (.istore_n 1, 1) := by decide +kernel
theorem dX6_hearers_2 : decode cX6_hearers 2 = .ok (.iconst 0, 1) := by decide +kernel
theorem dX6_hearers_3 : decode cX6_hearers 3 = .ok (.istore_n 2, 1) := by decide +kernel
theorem dX6_hearers_4 : decode cX6_hearers 4 = .ok (.iload_n 2, 1) := by decide +kernel
theorem dX6_hearers_5 : decode cX6_hearers 5 = .ok (.aload_n 0, 1) := by decide +kernel
theorem dX6_hearers_6 : decode cX6_hearers 6 = .ok (.getfield 9, 3) := by decide +kernel
theorem dX6_hearers_9 : decode cX6_hearers 9 = .ok (.iconst 2, 1) := by decide +kernel
theorem dX6_hearers_10 : decode cX6_hearers 10 = .ok (.iaload, 1) := by decide +kernel
theorem dX6_hearers_11 : decode cX6_hearers 11 = .ok (.if_icmp .ge 28, 3) := by decide +kernel
theorem dX6_hearers_14 : decode cX6_hearers 14 = .ok (.iload_n 1, 1) := by decide +kernel
theorem dX6_hearers_15 : decode cX6_hearers 15 = .ok (.aload_n 0, 1) := by decide +kernel
theorem dX6_hearers_16 : decode cX6_hearers 16 = .ok (.getfield 40, 3) := by decide +kernel
theorem dX6_hearers_19 : decode cX6_hearers 19 = .ok (.iload_n 2, 1) := by decide +kernel
theorem dX6_hearers_20 : decode cX6_hearers 20 = .ok (.iaload, 1) := by decide +kernel
theorem dX6_hearers_21 : decode cX6_hearers 21 = .ok (.ifCond .lt 9, 3) := by decide +kernel
theorem dX6_hearers_24 : decode cX6_hearers 24 = .ok (.iconst 1, 1) := by decide +kernel
theorem dX6_hearers_25 : decode cX6_hearers 25 = .ok (.iload_n 2, 1) := by decide +kernel
theorem dX6_hearers_26 : decode cX6_hearers 26 = .ok (.ishl, 1) := by decide +kernel
theorem dX6_hearers_27 : decode cX6_hearers 27 = .ok (.goto 4, 3) := by decide +kernel
theorem dX6_hearers_30 : decode cX6_hearers 30 = .ok (.iconst 0, 1) := by decide +kernel
theorem dX6_hearers_31 : decode cX6_hearers 31 = .ok (.ior, 1) := by decide +kernel
theorem dX6_hearers_32 : decode cX6_hearers 32 = .ok (.istore_n 1, 1) := by decide +kernel
theorem dX6_hearers_33 : decode cX6_hearers 33 = .ok (.iinc 2 1, 3) := by decide +kernel
theorem dX6_hearers_36 : decode cX6_hearers 36 = .ok (.goto (-32), 3) := by decide +kernel
theorem dX6_hearers_39 : decode cX6_hearers 39 = .ok (.iload_n 1, 1) := by decide +kernel
theorem dX6_hearers_40 : decode cX6_hearers 40 = .ok (.ireturn, 1) := by decide +kernel
theorem dX6_spreadsNow_0 : decode cX6_spreadsNow 0 = .ok (.aload_n 0, 1) := by decide +kernel
theorem dX6_spreadsNow_1 : decode cX6_spreadsNow 1 = .ok (.invokevirtual 173, 3) := by decide +kernel
theorem dX6_spreadsNow_4 : decode cX6_spreadsNow 4 = .ok (.aload_n 0, 1) := by decide +kernel
theorem dX6_spreadsNow_5 : decode cX6_spreadsNow 5 = .ok (.iload_n 1, 1) := by decide +kernel
theorem dX6_spreadsNow_6 : decode cX6_spreadsNow 6 = .ok (.iload_n 2, 1) := by decide +kernel
theorem dX6_spreadsNow_7 : decode cX6_spreadsNow 7 = .ok (.aload_n 0, 1) := by decide +kernel
theorem dX6_spreadsNow_8 : decode cX6_spreadsNow 8 = .ok (.invokevirtual 176, 3) := by decide +kernel
theorem dX6_spreadsNow_11 : decode cX6_spreadsNow 11 = .ok (.invokevirtual 178, 3) := by decide +kernel
theorem dX6_spreadsNow_14 : decode cX6_spreadsNow 14 = .ok (.return_, 1) := by decide +kernel
theorem dX6_hears_0 : decode cX6_hears 0 = .ok (.aload_n 0, 1) := by decide +kernel
theorem dX6_hears_1 : decode cX6_hears 1 = .ok (.iload_n 1, 1) := by decide +kernel
theorem dX6_hears_2 : decode cX6_hears 2 = .ok (.invokevirtual 81, 3) := by decide +kernel
theorem dX6_hears_5 : decode cX6_hears 5 = .ok (.ifCond .eq 10, 3) := by decide +kernel
theorem dX6_hears_8 : decode cX6_hears 8 = .ok (.iload_n 2, 1) := by decide +kernel
theorem dX6_hears_9 : decode cX6_hears 9 = .ok (.invokestatic 88, 3) := by decide +kernel
theorem dX6_hears_12 : decode cX6_hears 12 = .ok (.ifCond .ne 10, 3) := by decide +kernel
theorem dX6_hears_15 : decode cX6_hears 15 = .ok (.aload_n 0, 1) := by decide +kernel
theorem dX6_hears_16 : decode cX6_hears 16 = .ok (.ldc 75, 2) := by decide +kernel
theorem dX6_hears_18 : decode cX6_hears 18 = .ok (.invokevirtual 76, 3) := by decide +kernel
theorem dX6_hears_21 : decode cX6_hears 21 = .ok (.ireturn, 1) := by decide +kernel
theorem dX6_hears_22 : decode cX6_hears 22 = .ok (.aload_n 0, 1) := by decide +kernel
theorem dX6_hears_23 : decode cX6_hears 23 = .ok (.iload_n 1, 1) := by decide +kernel
theorem dX6_hears_24 : decode cX6_hears 24 = .ok (.iload_n 2, 1) := by decide +kernel
theorem dX6_hears_25 : decode cX6_hears 25 = .ok (.invokevirtual 182, 3) := by decide +kernel
theorem dX6_hears_28 : decode cX6_hears 28 = .ok (.aload_n 0, 1) := by decide +kernel
theorem dX6_hears_29 : decode cX6_hears 29 = .ok (.invokevirtual 185, 3) := by decide +kernel
theorem dX6_hears_32 : decode cX6_hears 32 = .ok (.ireturn, 1) := by decide +kernel
theorem dX6_heard_0 : decode cX6_heard 0 = .ok (.aload_n 0, 1) := by decide +kernel
theorem dX6_heard_1 : decode cX6_heard 1 = .ok (.iload_n 1, 1) := by decide +kernel
theorem dX6_heard_2 : decode cX6_heard 2 = .ok (.invokevirtual 81, 3) := by decide +kernel
theorem dX6_heard_5 : decode cX6_heard 5 = .ok (.ifCond .eq 28, 3) := by decide +kernel
theorem dX6_heard_8 : decode cX6_heard 8 = .ok (.iload_n 2, 1) := by decide +kernel
theorem dX6_heard_9 : decode cX6_heard 9 = .ok (.invokestatic 88, 3) := by decide +kernel
theorem dX6_heard_12 : decode cX6_heard 12 = .ok (.ifCond .eq 21, 3) := by decide +kernel
theorem dX6_heard_15 : decode cX6_heard 15 = .ok (.aload_n 0, 1) := by decide +kernel
theorem dX6_heard_16 : decode cX6_heard 16 = .ok (.iload_n 3, 1) := by decide +kernel
theorem dX6_heard_17 : decode cX6_heard 17 = .ok (.invokevirtual 81, 3) := by decide +kernel
theorem dX6_heard_20 : decode cX6_heard 20 = .ok (.ifCond .eq 13, 3) := by decide +kernel
theorem dX6_heard_23 : decode cX6_heard 23 = .ok (.iload 4, 2) := by decide +kernel
theorem dX6_heard_25 : decode cX6_heard 25 = .ok (.iconst 0, 1) := by decide +kernel
theorem dX6_heard_26 : decode cX6_heard 26 = .ok (.iconst 1, 1) := by decide +kernel
theorem dX6_heard_27 : decode cX6_heard 27 = .ok (.invokestatic 53, 3) := by decide +kernel
theorem dX6_heard_30 : decode cX6_heard 30 = .ok (.ifCond .ne 10, 3) := by decide +kernel
theorem dX6_heard_33 : decode cX6_heard 33 = .ok (.aload_n 0, 1) := by decide +kernel
theorem dX6_heard_34 : decode cX6_heard 34 = .ok (.ldc 75, 2) := by decide +kernel
theorem dX6_heard_36 : decode cX6_heard 36 = .ok (.invokevirtual 76, 3) := by decide +kernel
theorem dX6_heard_39 : decode cX6_heard 39 = .ok (.ireturn, 1) := by decide +kernel
theorem dX6_heard_40 : decode cX6_heard 40 = .ok (.aload_n 0, 1) := by decide +kernel
theorem dX6_heard_41 : decode cX6_heard 41 = .ok (.iload_n 1, 1) := by decide +kernel
theorem dX6_heard_42 : decode cX6_heard 42 = .ok (.iload_n 2, 1) := by decide +kernel
theorem dX6_heard_43 : decode cX6_heard 43 = .ok (.invokevirtual 182, 3) := by decide +kernel
theorem dX6_heard_46 : decode cX6_heard 46 = .ok (.aload_n 0, 1) := by decide +kernel
theorem dX6_heard_47 : decode cX6_heard 47 = .ok (.getfield 40, 3) := by decide +kernel
theorem dX6_heard_50 : decode cX6_heard 50 = .ok (.iload_n 3, 1) := by decide +kernel
theorem dX6_heard_51 : decode cX6_heard 51 = .ok (.iaload, 1) := by decide +kernel
theorem dX6_heard_52 : decode cX6_heard 52 = .ok (.ifCond .ge 12, 3) := by decide +kernel
theorem dX6_heard_55 : decode cX6_heard 55 = .ok (.aload_n 0, 1) := by decide +kernel
theorem dX6_heard_56 : decode cX6_heard 56 = .ok (.ldc 188, 2) := by decide +kernel
theorem dX6_heard_58 : decode cX6_heard 58 = .ok (.invokevirtual 76, 3) := by decide +kernel
theorem dX6_heard_61 : decode cX6_heard 61 = .ok (.goto 23, 3) := by decide +kernel
theorem dX6_heard_64 : decode cX6_heard 64 = .ok (.iload 4, 2) := by decide +kernel
theorem dX6_heard_66 : decode cX6_heard 66 = .ok (.ifCond .ne 12, 3) := by decide +kernel
theorem dX6_heard_69 : decode cX6_heard 69 = .ok (.aload_n 0, 1) := by decide +kernel
theorem dX6_heard_70 : decode cX6_heard 70 = .ok (.getfield 40, 3) := by decide +kernel
theorem dX6_heard_73 : decode cX6_heard 73 = .ok (.iload_n 3, 1) := by decide +kernel
theorem dX6_heard_74 : decode cX6_heard 74 = .ok (.iaload, 1) := by decide +kernel
theorem dX6_heard_75 : decode cX6_heard 75 = .ok (.goto 9, 3) := by decide +kernel
theorem dX6_heard_78 : decode cX6_heard 78 = .ok (.aload_n 0, 1) := by decide +kernel
theorem dX6_heard_79 : decode cX6_heard 79 = .ok (.getfield 43, 3) := by decide +kernel
theorem dX6_heard_82 : decode cX6_heard 82 = .ok (.iload_n 3, 1) := by decide +kernel
theorem dX6_heard_83 : decode cX6_heard 83 = .ok (.iaload, 1) := by decide +kernel
theorem dX6_heard_84 : decode cX6_heard 84 = .ok (.ireturn, 1) := by decide +kernel
theorem dX6_lets_0 : decode cX6_lets 0 = .ok (.aload_n 0, 1) := by decide +kernel
theorem dX6_lets_1 : decode cX6_lets 1 = .ok (.iload_n 1, 1) := by decide +kernel
theorem dX6_lets_2 : decode cX6_lets 2 = .ok (.iload_n 2, 1) := by decide +kernel
theorem dX6_lets_3 : decode cX6_lets 3 = .ok (.invokevirtual 182, 3) := by decide +kernel
theorem dX6_lets_6 : decode cX6_lets 6 = .ok (.iconst 0, 1) := by decide +kernel
theorem dX6_lets_7 : decode cX6_lets 7 = .ok (.istore_n 3, 1) := by decide +kernel
theorem dX6_lets_8 : decode cX6_lets 8 = .ok (.iload_n 3, 1) := by decide +kernel
theorem dX6_lets_9 : decode cX6_lets 9 = .ok (.aload_n 0, 1) := by decide +kernel
theorem dX6_lets_10 : decode cX6_lets 10 = .ok (.getfield 9, 3) := by decide +kernel
theorem dX6_lets_13 : decode cX6_lets 13 = .ok (.iconst 2, 1) := by decide +kernel
theorem dX6_lets_14 : decode cX6_lets 14 = .ok (.iaload, 1) := by decide +kernel
theorem dX6_lets_15 : decode cX6_lets 15 = .ok (.if_icmp .ge 46, 3) := by decide +kernel
theorem dX6_lets_18 : decode cX6_lets 18 = .ok (.bipush 7, 2) := by decide +kernel
theorem dX6_lets_20 : decode cX6_lets 20 = .ok (.iconst 4, 1) := by decide +kernel
theorem dX6_lets_21 : decode cX6_lets 21 = .ok (.iload_n 3, 1) := by decide +kernel
theorem dX6_lets_22 : decode cX6_lets 22 = .ok (.imul, 1) := by decide +kernel
theorem dX6_lets_23 : decode cX6_lets 23 = .ok (.iadd, 1) := by decide +kernel
theorem dX6_lets_24 : decode cX6_lets 24 = .ok (.iconst 3, 1) := by decide +kernel
theorem dX6_lets_25 : decode cX6_lets 25 = .ok (.iadd, 1) := by decide +kernel
theorem dX6_lets_26 : decode cX6_lets 26 = .ok (.istore 4, 2) := by decide +kernel
theorem dX6_lets_28 : decode cX6_lets 28 = .ok (.aload_n 0, 1) := by decide +kernel
theorem dX6_lets_29 : decode cX6_lets 29 = .ok (.getfield 9, 3) := by decide +kernel
theorem dX6_lets_32 : decode cX6_lets 32 = .ok (.iload 4, 2) := by decide +kernel
theorem dX6_lets_34 : decode cX6_lets 34 = .ok (.aload_n 0, 1) := by decide +kernel
theorem dX6_lets_35 : decode cX6_lets 35 = .ok (.getfield 9, 3) := by decide +kernel
theorem dX6_lets_38 : decode cX6_lets 38 = .ok (.iload 4, 2) := by decide +kernel
theorem dX6_lets_40 : decode cX6_lets 40 = .ok (.iaload, 1) := by decide +kernel
theorem dX6_lets_41 : decode cX6_lets 41 = .ok (.aload_n 0, 1) := by decide +kernel
theorem dX6_lets_42 : decode cX6_lets 42 = .ok (.getfield 43, 3) := by decide +kernel
theorem dX6_lets_45 : decode cX6_lets 45 = .ok (.iload_n 3, 1) := by decide +kernel
theorem dX6_lets_46 : decode cX6_lets 46 = .ok (.iaload, 1) := by decide +kernel
theorem dX6_lets_47 : decode cX6_lets 47 = .ok (.iadd, 1) := by decide +kernel
theorem dX6_lets_48 : decode cX6_lets 48 = .ok (.iconst 0, 1) := by decide +kernel
theorem dX6_lets_49 : decode cX6_lets 49 = .ok (.ldc 189, 2) := by decide +kernel
theorem dX6_lets_51 : decode cX6_lets 51 = .ok (.invokestatic 167, 3) := by decide +kernel
theorem dX6_lets_54 : decode cX6_lets 54 = .ok (.iastore, 1) := by decide +kernel
theorem dX6_lets_55 : decode cX6_lets 55 = .ok (.iinc 3 1, 3) := by decide +kernel
theorem dX6_lets_58 : decode cX6_lets 58 = .ok (.goto (-50), 3) := by decide +kernel
theorem dX6_lets_61 : decode cX6_lets 61 = .ok (.aload_n 0, 1) := by decide +kernel
theorem dX6_lets_62 : decode cX6_lets 62 = .ok (.invokevirtual 185, 3) := by decide +kernel
theorem dX6_lets_65 : decode cX6_lets 65 = .ok (.ireturn, 1) := by decide +kernel
theorem dX6_let_0 : decode cX6_let 0 = .ok (.aload_n 0, 1) := by decide +kernel
theorem dX6_let_1 : decode cX6_let 1 = .ok (.iload_n 1, 1) := by decide +kernel
theorem dX6_let_2 : decode cX6_let 2 = .ok (.invokevirtual 81, 3) := by decide +kernel
theorem dX6_let_5 : decode cX6_let 5 = .ok (.ifCond .eq 19, 3) := by decide +kernel
theorem dX6_let_8 : decode cX6_let 8 = .ok (.iload_n 2, 1) := by decide +kernel
theorem dX6_let_9 : decode cX6_let 9 = .ok (.invokestatic 88, 3) := by decide +kernel
theorem dX6_let_12 : decode cX6_let 12 = .ok (.ifCond .eq 12, 3) := by decide +kernel
theorem dX6_let_15 : decode cX6_let 15 = .ok (.aload_n 0, 1) := by decide +kernel
theorem dX6_let_16 : decode cX6_let 16 = .ok (.iload_n 1, 1) := by decide +kernel
theorem dX6_let_17 : decode cX6_let 17 = .ok (.iload_n 2, 1) := by decide +kernel
theorem dX6_let_18 : decode cX6_let 18 = .ok (.invokevirtual 190, 3) := by decide +kernel
theorem dX6_let_21 : decode cX6_let 21 = .ok (.goto 9, 3) := by decide +kernel
theorem dX6_let_24 : decode cX6_let 24 = .ok (.aload_n 0, 1) := by decide +kernel
theorem dX6_let_25 : decode cX6_let 25 = .ok (.ldc 75, 2) := by decide +kernel
theorem dX6_let_27 : decode cX6_let 27 = .ok (.invokevirtual 76, 3) := by decide +kernel
theorem dX6_let_30 : decode cX6_let 30 = .ok (.ireturn, 1) := by decide +kernel
theorem dX6_days_0 : decode cX6_days 0 = .ok (.iload_n 1, 1) := by decide +kernel
theorem dX6_days_1 : decode cX6_days 1 = .ok (.iconst 1, 1) := by decide +kernel
theorem dX6_days_2 : decode cX6_days 2 = .ok (.bipush 30, 2) := by decide +kernel
theorem dX6_days_4 : decode cX6_days 4 = .ok (.invokestatic 53, 3) := by decide +kernel
theorem dX6_days_7 : decode cX6_days 7 = .ok (.ifCond .ne 10, 3) := by decide +kernel
theorem dX6_days_10 : decode cX6_days 10 = .ok (.aload_n 0, 1) := by decide +kernel
theorem dX6_days_11 : decode cX6_days 11 = .ok (.ldc 75, 2) := by decide +kernel
theorem dX6_days_13 : decode cX6_days 13 = .ok (.invokevirtual 76, 3) := by decide +kernel
theorem dX6_days_16 : decode cX6_days 16 = .ok (.ireturn, 1) := by decide +kernel
theorem dX6_days_17 : decode cX6_days 17 = .ok (.aload_n 0, 1) := by decide +kernel
theorem dX6_days_18 : decode cX6_days 18 = .ok (.getfield 9, 3) := by decide +kernel
theorem dX6_days_21 : decode cX6_days 21 = .ok (.iconst 0, 1) := by decide +kernel
theorem dX6_days_22 : decode cX6_days 22 = .ok (.iaload, 1) := by decide +kernel
theorem dX6_days_23 : decode cX6_days 23 = .ok (.iload_n 1, 1) := by decide +kernel
theorem dX6_days_24 : decode cX6_days 24 = .ok (.iadd, 1) := by decide +kernel
theorem dX6_days_25 : decode cX6_days 25 = .ok (.sipush 9999, 3) := by decide +kernel
theorem dX6_days_28 : decode cX6_days 28 = .ok (.if_icmp .le 10, 3) := by decide +kernel
theorem dX6_days_31 : decode cX6_days 31 = .ok (.aload_n 0, 1) := by decide +kernel
theorem dX6_days_32 : decode cX6_days 32 = .ok (.ldc 98, 2) := by decide +kernel
theorem dX6_days_34 : decode cX6_days 34 = .ok (.invokevirtual 76, 3) := by decide +kernel
theorem dX6_days_37 : decode cX6_days 37 = .ok (.ireturn, 1) := by decide +kernel
theorem dX6_days_38 : decode cX6_days 38 = .ok (.iconst 0, 1) := by decide +kernel
theorem dX6_days_39 : decode cX6_days 39 = .ok (.istore_n 2, 1) := by decide +kernel
theorem dX6_days_40 : decode cX6_days 40 = .ok (.iload_n 2, 1) := by decide +kernel
theorem dX6_days_41 : decode cX6_days 41 = .ok (.iload_n 1, 1) := by decide +kernel
theorem dX6_days_42 : decode cX6_days 42 = .ok (.if_icmp .ge 51, 3) := by decide +kernel
theorem dX6_days_45 : decode cX6_days 45 = .ok (.iconst 0, 1) := by decide +kernel
theorem dX6_days_46 : decode cX6_days 46 = .ok (.istore_n 3, 1) := by decide +kernel
theorem dX6_days_47 : decode cX6_days 47 = .ok (.iload_n 3, 1) := by decide +kernel
theorem dX6_days_48 : decode cX6_days 48 = .ok (.aload_n 0, 1) := by decide +kernel
theorem dX6_days_49 : decode cX6_days 49 = .ok (.getfield 9, 3) := by decide +kernel
theorem dX6_days_52 : decode cX6_days 52 = .ok (.iconst 2, 1) := by decide +kernel
theorem dX6_days_53 : decode cX6_days 53 = .ok (.iaload, 1) := by decide +kernel
theorem dX6_days_54 : decode cX6_days 54 = .ok (.if_icmp .ge 33, 3) := by decide +kernel
theorem dX6_days_57 : decode cX6_days 57 = .ok (.aload_n 0, 1) := by decide +kernel
theorem dX6_days_58 : decode cX6_days 58 = .ok (.getfield 9, 3) := by decide +kernel
theorem dX6_days_61 : decode cX6_days 61 = .ok (.bipush 7, 2) := by decide +kernel
theorem dX6_days_63 : decode cX6_days 63 = .ok (.iconst 4, 1) := by decide +kernel
theorem dX6_days_64 : decode cX6_days 64 = .ok (.iload_n 3, 1) := by decide +kernel
theorem dX6_days_65 : decode cX6_days 65 = .ok (.imul, 1) := by decide +kernel
theorem dX6_days_66 : decode cX6_days 66 = .ok (.iadd, 1) := by decide +kernel
theorem dX6_days_67 : decode cX6_days 67 = .ok (.iconst 3, 1) := by decide +kernel
theorem dX6_days_68 : decode cX6_days 68 = .ok (.iadd, 1) := by decide +kernel
theorem dX6_days_69 : decode cX6_days 69 = .ok (.dup2, 1) := by decide +kernel
theorem dX6_days_70 : decode cX6_days 70 = .ok (.iaload, 1) := by decide +kernel
theorem dX6_days_71 : decode cX6_days 71 = .ok (.aload_n 0, 1) := by decide +kernel
theorem dX6_days_72 : decode cX6_days 72 = .ok (.iload_n 3, 1) := by decide +kernel
theorem dX6_days_73 : decode cX6_days 73 = .ok (.iconst 3, 1) := by decide +kernel
theorem dX6_days_74 : decode cX6_days 74 = .ok (.invokevirtual 57, 3) := by decide +kernel
theorem dX6_days_77 : decode cX6_days 77 = .ok (.iconst 4, 1) := by decide +kernel
theorem dX6_days_78 : decode cX6_days 78 = .ok (.idiv, 1) := by decide +kernel
theorem dX6_days_79 : decode cX6_days 79 = .ok (.isub, 1) := by decide +kernel
theorem dX6_days_80 : decode cX6_days 80 = .ok (.iastore, 1) := by decide +kernel
theorem dX6_days_81 : decode cX6_days 81 = .ok (.iinc 3 1, 3) := by decide +kernel
theorem dX6_days_84 : decode cX6_days 84 = .ok (.goto (-37), 3) := by decide +kernel
theorem dX6_days_87 : decode cX6_days 87 = .ok (.iinc 2 1, 3) := by decide +kernel
theorem dX6_days_90 : decode cX6_days 90 = .ok (.goto (-50), 3) := by decide +kernel
theorem dX6_days_93 : decode cX6_days 93 = .ok (.aload_n 0, 1) := by decide +kernel
theorem dX6_days_94 : decode cX6_days 94 = .ok (.getfield 9, 3) := by decide +kernel
theorem dX6_days_97 : decode cX6_days 97 = .ok (.iconst 0, 1) := by decide +kernel
theorem dX6_days_98 : decode cX6_days 98 = .ok (.dup2, 1) := by decide +kernel
theorem dX6_days_99 : decode cX6_days 99 = .ok (.iaload, 1) := by decide +kernel
theorem dX6_days_100 : decode cX6_days 100 = .ok (.iload_n 1, 1) := by decide +kernel
theorem dX6_days_101 : decode cX6_days 101 = .ok (.iadd, 1) := by decide +kernel
theorem dX6_days_102 : decode cX6_days 102 = .ok (.iastore, 1) := by decide +kernel
theorem dX6_days_103 : decode cX6_days 103 = .ok (.aload_n 0, 1) := by decide +kernel
theorem dX6_days_104 : decode cX6_days 104 = .ok (.getfield 9, 3) := by decide +kernel
theorem dX6_days_107 : decode cX6_days 107 = .ok (.iconst 0, 1) := by decide +kernel
theorem dX6_days_108 : decode cX6_days 108 = .ok (.iaload, 1) := by decide +kernel
theorem dX6_days_109 : decode cX6_days 109 = .ok (.ireturn, 1) := by decide +kernel
theorem dX6_draw_0 : decode cX6_draw 0 = .ok (.aload_n 0, 1) := by decide +kernel
theorem dX6_draw_1 : decode cX6_draw 1 = .ok (.getfield 9, 3) := by decide +kernel
theorem dX6_draw_4 : decode cX6_draw 4 = .ok (.iconst 1, 1) := by decide +kernel
theorem dX6_draw_5 : decode cX6_draw 5 = .ok (.aload_n 0, 1) := by decide +kernel
theorem dX6_draw_6 : decode cX6_draw 6 = .ok (.getfield 9, 3) := by decide +kernel
theorem dX6_draw_9 : decode cX6_draw 9 = .ok (.iconst 1, 1) := by decide +kernel
theorem dX6_draw_10 : decode cX6_draw 10 = .ok (.iaload, 1) := by decide +kernel
theorem dX6_draw_11 : decode cX6_draw 11 = .ok (.ldc 193, 2) := by decide +kernel
theorem dX6_draw_13 : decode cX6_draw 13 = .ok (.imul, 1) := by decide +kernel
theorem dX6_draw_14 : decode cX6_draw 14 = .ok (.sipush 12345, 3) := by decide +kernel
theorem dX6_draw_17 : decode cX6_draw 17 = .ok (.iadd, 1) := by decide +kernel
theorem dX6_draw_18 : decode cX6_draw 18 = .ok (.iastore, 1) := by decide +kernel
theorem dX6_draw_19 : decode cX6_draw 19 = .ok (.aload_n 0, 1) := by decide +kernel
theorem dX6_draw_20 : decode cX6_draw 20 = .ok (.getfield 9, 3) := by decide +kernel
theorem dX6_draw_23 : decode cX6_draw 23 = .ok (.iconst 1, 1) := by decide +kernel
theorem dX6_draw_24 : decode cX6_draw 24 = .ok (.iaload, 1) := by decide +kernel
theorem dX6_draw_25 : decode cX6_draw 25 = .ok (.bipush 8, 2) := by decide +kernel
theorem dX6_draw_27 : decode cX6_draw 27 = .ok (.iushr, 1) := by decide +kernel
theorem dX6_draw_28 : decode cX6_draw 28 = .ok (.ireturn, 1) := by decide +kernel
theorem dX6_loose_0 : decode cX6_loose 0 = .ok (.iload_n 1, 1) := by decide +kernel
theorem dX6_loose_1 : decode cX6_loose 1 = .ok (.iconst 1, 1) := by decide +kernel
theorem dX6_loose_2 : decode cX6_loose 2 = .ok (.bipush 20, 2) := by decide +kernel
theorem dX6_loose_4 : decode cX6_loose 4 = .ok (.invokestatic 53, 3) := by decide +kernel
theorem dX6_loose_7 : decode cX6_loose 7 = .ok (.ifCond .ne 10, 3) := by decide +kernel
theorem dX6_loose_10 : decode cX6_loose 10 = .ok (.aload_n 0, 1) := by decide +kernel
theorem dX6_loose_11 : decode cX6_loose 11 = .ok (.ldc 75, 2) := by decide +kernel
theorem dX6_loose_13 : decode cX6_loose 13 = .ok (.invokevirtual 76, 3) := by decide +kernel
theorem dX6_loose_16 : decode cX6_loose 16 = .ok (.ireturn, 1) := by decide +kernel
theorem dX6_loose_17 : decode cX6_loose 17 = .ok (.aload_n 0, 1) := by decide +kernel
theorem dX6_loose_18 : decode cX6_loose 18 = .ok (.getfield 9, 3) := by decide +kernel
theorem dX6_loose_21 : decode cX6_loose 21 = .ok (.iconst 0, 1) := by decide +kernel
theorem dX6_loose_22 : decode cX6_loose 22 = .ok (.iaload, 1) := by decide +kernel
theorem dX6_loose_23 : decode cX6_loose 23 = .ok (.iload_n 1, 1) := by decide +kernel
theorem dX6_loose_24 : decode cX6_loose 24 = .ok (.iadd, 1) := by decide +kernel
theorem dX6_loose_25 : decode cX6_loose 25 = .ok (.sipush 9999, 3) := by decide +kernel
theorem dX6_loose_28 : decode cX6_loose 28 = .ok (.if_icmp .le 10, 3) := by decide +kernel
theorem dX6_loose_31 : decode cX6_loose 31 = .ok (.aload_n 0, 1) := by decide +kernel
theorem dX6_loose_32 : decode cX6_loose 32 = .ok (.ldc 98, 2) := by decide +kernel
theorem dX6_loose_34 : decode cX6_loose 34 = .ok (.invokevirtual 76, 3) := by decide +kernel
theorem dX6_loose_37 : decode cX6_loose 37 = .ok (.ireturn, 1) := by decide +kernel
theorem dX6_loose_38 : decode cX6_loose 38 = .ok (.iconst 0, 1) := by decide +kernel
theorem dX6_loose_39 : decode cX6_loose 39 = .ok (.istore_n 2, 1) := by decide +kernel
theorem dX6_loose_40 : decode cX6_loose 40 = .ok (.iconst 0, 1) := by decide +kernel
theorem dX6_loose_41 : decode cX6_loose 41 = .ok (.istore_n 3, 1) := by decide +kernel
theorem dX6_loose_42 : decode cX6_loose 42 = .ok (.iload_n 3, 1) := by decide +kernel
theorem dX6_loose_43 : decode cX6_loose 43 = .ok (.iload_n 1, 1) := by decide +kernel
theorem dX6_loose_44 : decode cX6_loose 44 = .ok (.if_icmp .ge 72, 3) := by decide +kernel
theorem dX6_loose_47 : decode cX6_loose 47 = .ok (.aload_n 0, 1) := by decide +kernel
theorem dX6_loose_48 : decode cX6_loose 48 = .ok (.getfield 9, 3) := by decide +kernel
theorem dX6_loose_51 : decode cX6_loose 51 = .ok (.iconst 4, 1) := by decide +kernel
theorem dX6_loose_52 : decode cX6_loose 52 = .ok (.aload_n 0, 1) := by decide +kernel
theorem dX6_loose_53 : decode cX6_loose 53 = .ok (.invokevirtual 194, 3) := by decide +kernel
theorem dX6_loose_56 : decode cX6_loose 56 = .ok (.bipush 10, 2) := by decide +kernel
theorem dX6_loose_58 : decode cX6_loose 58 = .ok (.irem, 1) := by decide +kernel
theorem dX6_loose_59 : decode cX6_loose 59 = .ok (.iastore, 1) := by decide +kernel
theorem dX6_loose_60 : decode cX6_loose 60 = .ok (.aload_n 0, 1) := by decide +kernel
theorem dX6_loose_61 : decode cX6_loose 61 = .ok (.getfield 9, 3) := by decide +kernel
theorem dX6_loose_64 : decode cX6_loose 64 = .ok (.iconst 2, 1) := by decide +kernel
theorem dX6_loose_65 : decode cX6_loose 65 = .ok (.iaload, 1) := by decide +kernel
theorem dX6_loose_66 : decode cX6_loose 66 = .ok (.ifCond .le 34, 3) := by decide +kernel
theorem dX6_loose_69 : decode cX6_loose 69 = .ok (.aload_n 0, 1) := by decide +kernel
theorem dX6_loose_70 : decode cX6_loose 70 = .ok (.invokevirtual 194, 3) := by decide +kernel
theorem dX6_loose_73 : decode cX6_loose 73 = .ok (.aload_n 0, 1) := by decide +kernel
theorem dX6_loose_74 : decode cX6_loose 74 = .ok (.getfield 9, 3) := by decide +kernel
theorem dX6_loose_77 : decode cX6_loose 77 = .ok (.iconst 2, 1) := by decide +kernel
theorem dX6_loose_78 : decode cX6_loose 78 = .ok (.iaload, 1) := by decide +kernel
theorem dX6_loose_79 : decode cX6_loose 79 = .ok (.irem, 1) := by decide +kernel
theorem dX6_loose_80 : decode cX6_loose 80 = .ok (.istore 4, 2) := by decide +kernel
theorem dX6_loose_82 : decode cX6_loose 82 = .ok (.iload_n 2, 1) := by decide +kernel
theorem dX6_loose_83 : decode cX6_loose 83 = .ok (.aload_n 0, 1) := by decide +kernel
theorem dX6_loose_84 : decode cX6_loose 84 = .ok (.iload 4, 2) := by decide +kernel
theorem dX6_loose_86 : decode cX6_loose 86 = .ok (.iconst 1, 1) := by decide +kernel
theorem dX6_loose_87 : decode cX6_loose 87 = .ok (.aload_n 0, 1) := by decide +kernel
theorem dX6_loose_88 : decode cX6_loose 88 = .ok (.invokevirtual 194, 3) := by decide +kernel
theorem dX6_loose_91 : decode cX6_loose 91 = .ok (.bipush 20, 2) := by decide +kernel
theorem dX6_loose_93 : decode cX6_loose 93 = .ok (.irem, 1) := by decide +kernel
theorem dX6_loose_94 : decode cX6_loose 94 = .ok (.iadd, 1) := by decide +kernel
theorem dX6_loose_95 : decode cX6_loose 95 = .ok (.invokevirtual 190, 3) := by decide +kernel
theorem dX6_loose_98 : decode cX6_loose 98 = .ok (.ior, 1) := by decide +kernel
theorem dX6_loose_99 : decode cX6_loose 99 = .ok (.istore_n 2, 1) := by decide +kernel
theorem dX6_loose_100 : decode cX6_loose 100 = .ok (.aload_n 0, 1) := by decide +kernel
theorem dX6_loose_101 : decode cX6_loose 101 = .ok (.getfield 9, 3) := by decide +kernel
theorem dX6_loose_104 : decode cX6_loose 104 = .ok (.iconst 0, 1) := by decide +kernel
theorem dX6_loose_105 : decode cX6_loose 105 = .ok (.dup2, 1) := by decide +kernel
theorem dX6_loose_106 : decode cX6_loose 106 = .ok (.iaload, 1) := by decide +kernel
theorem dX6_loose_107 : decode cX6_loose 107 = .ok (.iconst 1, 1) := by decide +kernel
theorem dX6_loose_108 : decode cX6_loose 108 = .ok (.iadd, 1) := by decide +kernel
theorem dX6_loose_109 : decode cX6_loose 109 = .ok (.iastore, 1) := by decide +kernel
theorem dX6_loose_110 : decode cX6_loose 110 = .ok (.iinc 3 1, 3) := by decide +kernel
theorem dX6_loose_113 : decode cX6_loose 113 = .ok (.goto (-71), 3) := by decide +kernel
theorem dX6_loose_116 : decode cX6_loose 116 = .ok (.iload_n 2, 1) := by decide +kernel
theorem dX6_loose_117 : decode cX6_loose 117 = .ok (.ireturn, 1) := by decide +kernel
theorem dX6_seed_0 : decode cX6_seed 0 = .ok (.aload_n 0, 1) := by decide +kernel
theorem dX6_seed_1 : decode cX6_seed 1 = .ok (.iconst 1, 1) := by decide +kernel
theorem dX6_seed_2 : decode cX6_seed 2 = .ok (.iload_n 1, 1) := by decide +kernel
theorem dX6_seed_3 : decode cX6_seed 3 = .ok (.invokevirtual 84, 3) := by decide +kernel
theorem dX6_seed_6 : decode cX6_seed 6 = .ok (.ireturn, 1) := by decide +kernel
theorem dX6_hush_0 : decode cX6_hush 0 = .ok (.aload_n 0, 1) := by decide +kernel
theorem dX6_hush_1 : decode cX6_hush 1 = .ok (.iload_n 1, 1) := by decide +kernel
theorem dX6_hush_2 : decode cX6_hush 2 = .ok (.invokevirtual 81, 3) := by decide +kernel
theorem dX6_hush_5 : decode cX6_hush 5 = .ok (.ifCond .eq 28, 3) := by decide +kernel
theorem dX6_hush_8 : decode cX6_hush 8 = .ok (.iload_n 2, 1) := by decide +kernel
theorem dX6_hush_9 : decode cX6_hush 9 = .ok (.invokestatic 88, 3) := by decide +kernel
theorem dX6_hush_12 : decode cX6_hush 12 = .ok (.ifCond .eq 21, 3) := by decide +kernel
theorem dX6_hush_15 : decode cX6_hush 15 = .ok (.aload_n 0, 1) := by decide +kernel
theorem dX6_hush_16 : decode cX6_hush 16 = .ok (.iload_n 3, 1) := by decide +kernel
theorem dX6_hush_17 : decode cX6_hush 17 = .ok (.invokevirtual 81, 3) := by decide +kernel
theorem dX6_hush_20 : decode cX6_hush 20 = .ok (.ifCond .eq 13, 3) := by decide +kernel
theorem dX6_hush_23 : decode cX6_hush 23 = .ok (.iload 4, 2) := by decide +kernel
theorem dX6_hush_25 : decode cX6_hush 25 = .ok (.iconst 0, 1) := by decide +kernel
theorem dX6_hush_26 : decode cX6_hush 26 = .ok (.iconst 1, 1) := by decide +kernel
theorem dX6_hush_27 : decode cX6_hush 27 = .ok (.invokestatic 53, 3) := by decide +kernel
theorem dX6_hush_30 : decode cX6_hush 30 = .ok (.ifCond .ne 10, 3) := by decide +kernel
theorem dX6_hush_33 : decode cX6_hush 33 = .ok (.aload_n 0, 1) := by decide +kernel
theorem dX6_hush_34 : decode cX6_hush 34 = .ok (.ldc 75, 2) := by decide +kernel
theorem dX6_hush_36 : decode cX6_hush 36 = .ok (.invokevirtual 76, 3) := by decide +kernel
theorem dX6_hush_39 : decode cX6_hush 39 = .ok (.ireturn, 1) := by decide +kernel
theorem dX6_hush_40 : decode cX6_hush 40 = .ok (.iload_n 1, 1) := by decide +kernel
theorem dX6_hush_41 : decode cX6_hush 41 = .ok (.iload_n 3, 1) := by decide +kernel
theorem dX6_hush_42 : decode cX6_hush 42 = .ok (.if_icmp .ne 10, 3) := by decide +kernel
theorem dX6_hush_45 : decode cX6_hush 45 = .ok (.aload_n 0, 1) := by decide +kernel
theorem dX6_hush_46 : decode cX6_hush 46 = .ok (.ldc 98, 2) := by decide +kernel
theorem dX6_hush_48 : decode cX6_hush 48 = .ok (.invokevirtual 76, 3) := by decide +kernel
theorem dX6_hush_51 : decode cX6_hush 51 = .ok (.ireturn, 1) := by decide +kernel
theorem dX6_hush_52 : decode cX6_hush 52 = .ok (.aload_n 0, 1) := by decide +kernel
theorem dX6_hush_53 : decode cX6_hush 53 = .ok (.invokevirtual 173, 3) := by decide +kernel
theorem dX6_hush_56 : decode cX6_hush 56 = .ok (.aload_n 0, 1) := by decide +kernel
theorem dX6_hush_57 : decode cX6_hush 57 = .ok (.invokevirtual 176, 3) := by decide +kernel
theorem dX6_hush_60 : decode cX6_hush 60 = .ok (.istore 5, 2) := by decide +kernel
theorem dX6_hush_62 : decode cX6_hush 62 = .ok (.iconst (-1), 1) := by decide +kernel
theorem dX6_hush_63 : decode cX6_hush 63 = .ok (.istore 6, 2) := by decide +kernel
theorem dX6_hush_65 : decode cX6_hush 65 = .ok (.iconst 0, 1) := by decide +kernel
theorem dX6_hush_66 : decode cX6_hush 66 = .ok (.istore 7, 2) := by decide +kernel
theorem dX6_hush_68 : decode cX6_hush 68 = .ok (.iload 7, 2) := by decide +kernel
theorem dX6_hush_70 : decode cX6_hush 70 = .ok (.iload 5, 2) := by decide +kernel
theorem dX6_hush_72 : decode cX6_hush 72 = .ok (.if_icmp .gt 68, 3) := by decide +kernel
theorem dX6_hush_75 : decode cX6_hush 75 = .ok (.iload 7, 2) := by decide +kernel
theorem dX6_hush_77 : decode cX6_hush 77 = .ok (.iload 5, 2) := by decide +kernel
theorem dX6_hush_79 : decode cX6_hush 79 = .ok (.iconst (-1), 1) := by decide +kernel
theorem dX6_hush_80 : decode cX6_hush 80 = .ok (.ixor, 1) := by decide +kernel
theorem dX6_hush_81 : decode cX6_hush 81 = .ok (.iand, 1) := by decide +kernel
theorem dX6_hush_82 : decode cX6_hush 82 = .ok (.ifCond .ne 52, 3) := by decide +kernel
theorem dX6_hush_85 : decode cX6_hush 85 = .ok (.iload 6, 2) := by decide +kernel
theorem dX6_hush_87 : decode cX6_hush 87 = .ok (.ifCond .lt 16, 3) := by decide +kernel
theorem dX6_hush_90 : decode cX6_hush 90 = .ok (.iload 7, 2) := by decide +kernel
theorem dX6_hush_92 : decode cX6_hush 92 = .ok (.invokestatic 197, 3) := by decide +kernel
theorem dX6_hush_95 : decode cX6_hush 95 = .ok (.iload 6, 2) := by decide +kernel
theorem dX6_hush_97 : decode cX6_hush 97 = .ok (.invokestatic 197, 3) := by decide +kernel
theorem dX6_hush_100 : decode cX6_hush 100 = .ok (.if_icmp .ge 34, 3) := by decide +kernel
theorem dX6_hush_103 : decode cX6_hush 103 = .ok (.aload_n 0, 1) := by decide +kernel
theorem dX6_hush_104 : decode cX6_hush 104 = .ok (.iload_n 1, 1) := by decide +kernel
theorem dX6_hush_105 : decode cX6_hush 105 = .ok (.iload_n 2, 1) := by decide +kernel
theorem dX6_hush_106 : decode cX6_hush 106 = .ok (.iload 5, 2) := by decide +kernel
theorem dX6_hush_108 : decode cX6_hush 108 = .ok (.iload 7, 2) := by decide +kernel
theorem dX6_hush_110 : decode cX6_hush 110 = .ok (.iconst (-1), 1) := by decide +kernel
theorem dX6_hush_111 : decode cX6_hush 111 = .ok (.ixor, 1) := by decide +kernel
theorem dX6_hush_112 : decode cX6_hush 112 = .ok (.iand, 1) := by decide +kernel
theorem dX6_hush_113 : decode cX6_hush 113 = .ok (.invokevirtual 178, 3) := by decide +kernel
theorem dX6_hush_116 : decode cX6_hush 116 = .ok (.aload_n 0, 1) := by decide +kernel
theorem dX6_hush_117 : decode cX6_hush 117 = .ok (.getfield 40, 3) := by decide +kernel
theorem dX6_hush_120 : decode cX6_hush 120 = .ok (.iload_n 3, 1) := by decide +kernel
theorem dX6_hush_121 : decode cX6_hush 121 = .ok (.iaload, 1) := by decide +kernel
theorem dX6_hush_122 : decode cX6_hush 122 = .ok (.ifCond .ge 8, 3) := by decide +kernel
theorem dX6_hush_125 : decode cX6_hush 125 = .ok (.iload 7, 2) := by decide +kernel
theorem dX6_hush_127 : decode cX6_hush 127 = .ok (.goto 5, 3) := by decide +kernel
theorem dX6_hush_130 : decode cX6_hush 130 = .ok (.iload 6, 2) := by decide +kernel
theorem dX6_hush_132 : decode cX6_hush 132 = .ok (.istore 6, 2) := by decide +kernel
theorem dX6_hush_134 : decode cX6_hush 134 = .ok (.iinc 7 1, 3) := by decide +kernel
theorem dX6_hush_137 : decode cX6_hush 137 = .ok (.goto (-69), 3) := by decide +kernel
theorem dX6_hush_140 : decode cX6_hush 140 = .ok (.iload 4, 2) := by decide +kernel
theorem dX6_hush_142 : decode cX6_hush 142 = .ok (.ifCond .ne 11, 3) := by decide +kernel
theorem dX6_hush_145 : decode cX6_hush 145 = .ok (.iload 6, 2) := by decide +kernel
theorem dX6_hush_147 : decode cX6_hush 147 = .ok (.invokestatic 197, 3) := by decide +kernel
theorem dX6_hush_150 : decode cX6_hush 150 = .ok (.goto 5, 3) := by decide +kernel
theorem dX6_hush_153 : decode cX6_hush 153 = .ok (.iload 6, 2) := by decide +kernel
theorem dX6_hush_155 : decode cX6_hush 155 = .ok (.ireturn, 1) := by decide +kernel
theorem dX6_reach_0 : decode cX6_reach 0 = .ok (.aload_n 0, 1) := by decide +kernel
theorem dX6_reach_1 : decode cX6_reach 1 = .ok (.iload_n 1, 1) := by decide +kernel
theorem dX6_reach_2 : decode cX6_reach 2 = .ok (.invokevirtual 81, 3) := by decide +kernel
theorem dX6_reach_5 : decode cX6_reach 5 = .ok (.ifCond .eq 39, 3) := by decide +kernel
theorem dX6_reach_8 : decode cX6_reach 8 = .ok (.iload_n 2, 1) := by decide +kernel
theorem dX6_reach_9 : decode cX6_reach 9 = .ok (.invokestatic 88, 3) := by decide +kernel
theorem dX6_reach_12 : decode cX6_reach 12 = .ok (.ifCond .eq 32, 3) := by decide +kernel
theorem dX6_reach_15 : decode cX6_reach 15 = .ok (.aload_n 0, 1) := by decide +kernel
theorem dX6_reach_16 : decode cX6_reach 16 = .ok (.iload_n 3, 1) := by decide +kernel
theorem dX6_reach_17 : decode cX6_reach 17 = .ok (.invokevirtual 81, 3) := by decide +kernel
theorem dX6_reach_20 : decode cX6_reach 20 = .ok (.ifCond .eq 24, 3) := by decide +kernel
theorem dX6_reach_23 : decode cX6_reach 23 = .ok (.iload 4, 2) := by decide +kernel
theorem dX6_reach_25 : decode cX6_reach 25 = .ok (.iconst 0, 1) := by decide +kernel
theorem dX6_reach_26 : decode cX6_reach 26 = .ok (.bipush 99, 2) := by decide +kernel
theorem dX6_reach_28 : decode cX6_reach 28 = .ok (.invokestatic 53, 3) := by decide +kernel
theorem dX6_reach_31 : decode cX6_reach 31 = .ok (.ifCond .eq 13, 3) := by decide +kernel
theorem dX6_reach_34 : decode cX6_reach 34 = .ok (.iload 5, 2) := by decide +kernel
theorem dX6_reach_36 : decode cX6_reach 36 = .ok (.iconst 0, 1) := by decide +kernel
theorem dX6_reach_37 : decode cX6_reach 37 = .ok (.iconst 1, 1) := by decide +kernel
theorem dX6_reach_38 : decode cX6_reach 38 = .ok (.invokestatic 53, 3) := by decide +kernel
theorem dX6_reach_41 : decode cX6_reach 41 = .ok (.ifCond .ne 10, 3) := by decide +kernel
theorem dX6_reach_44 : decode cX6_reach 44 = .ok (.aload_n 0, 1) := by decide +kernel
theorem dX6_reach_45 : decode cX6_reach 45 = .ok (.ldc 75, 2) := by decide +kernel
theorem dX6_reach_47 : decode cX6_reach 47 = .ok (.invokevirtual 76, 3) := by decide +kernel
theorem dX6_reach_50 : decode cX6_reach 50 = .ok (.ireturn, 1) := by decide +kernel
theorem dX6_reach_51 : decode cX6_reach 51 = .ok (.aload_n 0, 1) := by decide +kernel
theorem dX6_reach_52 : decode cX6_reach 52 = .ok (.invokevirtual 173, 3) := by decide +kernel
theorem dX6_reach_55 : decode cX6_reach 55 = .ok (.aload_n 0, 1) := by decide +kernel
theorem dX6_reach_56 : decode cX6_reach 56 = .ok (.invokevirtual 176, 3) := by decide +kernel
theorem dX6_reach_59 : decode cX6_reach 59 = .ok (.istore 6, 2) := by decide +kernel
theorem dX6_reach_61 : decode cX6_reach 61 = .ok (.iconst 1, 1) := by decide +kernel
theorem dX6_reach_62 : decode cX6_reach 62 = .ok (.aload_n 0, 1) := by decide +kernel
theorem dX6_reach_63 : decode cX6_reach 63 = .ok (.getfield 9, 3) := by decide +kernel
theorem dX6_reach_66 : decode cX6_reach 66 = .ok (.iconst 3, 1) := by decide +kernel
theorem dX6_reach_67 : decode cX6_reach 67 = .ok (.iaload, 1) := by decide +kernel
theorem dX6_reach_68 : decode cX6_reach 68 = .ok (.ishl, 1) := by decide +kernel
theorem dX6_reach_69 : decode cX6_reach 69 = .ok (.iconst 1, 1) := by decide +kernel
theorem dX6_reach_70 : decode cX6_reach 70 = .ok (.isub, 1) := by decide +kernel
theorem dX6_reach_71 : decode cX6_reach 71 = .ok (.iload 6, 2) := by decide +kernel
theorem dX6_reach_73 : decode cX6_reach 73 = .ok (.iconst (-1), 1) := by decide +kernel
theorem dX6_reach_74 : decode cX6_reach 74 = .ok (.ixor, 1) := by decide +kernel
theorem dX6_reach_75 : decode cX6_reach 75 = .ok (.iand, 1) := by decide +kernel
theorem dX6_reach_76 : decode cX6_reach 76 = .ok (.istore 7, 2) := by decide +kernel
theorem dX6_reach_78 : decode cX6_reach 78 = .ok (.iconst (-1), 1) := by decide +kernel
theorem dX6_reach_79 : decode cX6_reach 79 = .ok (.istore 8, 2) := by decide +kernel
theorem dX6_reach_81 : decode cX6_reach 81 = .ok (.iconst 0, 1) := by decide +kernel
theorem dX6_reach_82 : decode cX6_reach 82 = .ok (.istore 9, 2) := by decide +kernel
theorem dX6_reach_84 : decode cX6_reach 84 = .ok (.iload 9, 2) := by decide +kernel
theorem dX6_reach_86 : decode cX6_reach 86 = .ok (.iload 7, 2) := by decide +kernel
theorem dX6_reach_88 : decode cX6_reach 88 = .ok (.if_icmp .gt 72, 3) := by decide +kernel
theorem dX6_reach_91 : decode cX6_reach 91 = .ok (.iload 9, 2) := by decide +kernel
theorem dX6_reach_93 : decode cX6_reach 93 = .ok (.iload 7, 2) := by decide +kernel
theorem dX6_reach_95 : decode cX6_reach 95 = .ok (.iconst (-1), 1) := by decide +kernel
theorem dX6_reach_96 : decode cX6_reach 96 = .ok (.ixor, 1) := by decide +kernel
theorem dX6_reach_97 : decode cX6_reach 97 = .ok (.iand, 1) := by decide +kernel
theorem dX6_reach_98 : decode cX6_reach 98 = .ok (.ifCond .ne 56, 3) := by decide +kernel
theorem dX6_reach_101 : decode cX6_reach 101 = .ok (.iload 8, 2) := by decide +kernel
theorem dX6_reach_103 : decode cX6_reach 103 = .ok (.ifCond .lt 16, 3) := by decide +kernel
theorem dX6_reach_106 : decode cX6_reach 106 = .ok (.iload 9, 2) := by decide +kernel
theorem dX6_reach_108 : decode cX6_reach 108 = .ok (.invokestatic 197, 3) := by decide +kernel
theorem dX6_reach_111 : decode cX6_reach 111 = .ok (.iload 8, 2) := by decide +kernel
theorem dX6_reach_113 : decode cX6_reach 113 = .ok (.invokestatic 197, 3) := by decide +kernel
theorem dX6_reach_116 : decode cX6_reach 116 = .ok (.if_icmp .ge 38, 3) := by decide +kernel
theorem dX6_reach_119 : decode cX6_reach 119 = .ok (.aload_n 0, 1) := by decide +kernel
theorem dX6_reach_120 : decode cX6_reach 120 = .ok (.iload_n 1, 1) := by decide +kernel
theorem dX6_reach_121 : decode cX6_reach 121 = .ok (.iload_n 2, 1) := by decide +kernel
theorem dX6_reach_122 : decode cX6_reach 122 = .ok (.iload 6, 2) := by decide +kernel
theorem dX6_reach_124 : decode cX6_reach 124 = .ok (.iload 9, 2) := by decide +kernel
theorem dX6_reach_126 : decode cX6_reach 126 = .ok (.ior, 1) := by decide +kernel
theorem dX6_reach_127 : decode cX6_reach 127 = .ok (.invokevirtual 178, 3) := by decide +kernel
theorem dX6_reach_130 : decode cX6_reach 130 = .ok (.aload_n 0, 1) := by decide +kernel
theorem dX6_reach_131 : decode cX6_reach 131 = .ok (.getfield 40, 3) := by decide +kernel
theorem dX6_reach_134 : decode cX6_reach 134 = .ok (.iload_n 3, 1) := by decide +kernel
theorem dX6_reach_135 : decode cX6_reach 135 = .ok (.iaload, 1) := by decide +kernel
theorem dX6_reach_136 : decode cX6_reach 136 = .ok (.iconst 0, 1) := by decide +kernel
theorem dX6_reach_137 : decode cX6_reach 137 = .ok (.iload 4, 2) := by decide +kernel
theorem dX6_reach_139 : decode cX6_reach 139 = .ok (.invokestatic 53, 3) := by decide +kernel
theorem dX6_reach_142 : decode cX6_reach 142 = .ok (.ifCond .eq 8, 3) := by decide +kernel
theorem dX6_reach_145 : decode cX6_reach 145 = .ok (.iload 9, 2) := by decide +kernel
theorem dX6_reach_147 : decode cX6_reach 147 = .ok (.goto 5, 3) := by decide +kernel
theorem dX6_reach_150 : decode cX6_reach 150 = .ok (.iload 8, 2) := by decide +kernel
theorem dX6_reach_152 : decode cX6_reach 152 = .ok (.istore 8, 2) := by decide +kernel
theorem dX6_reach_154 : decode cX6_reach 154 = .ok (.iinc 9 1, 3) := by decide +kernel
theorem dX6_reach_157 : decode cX6_reach 157 = .ok (.goto (-73), 3) := by decide +kernel
theorem dX6_reach_160 : decode cX6_reach 160 = .ok (.iload 8, 2) := by decide +kernel
theorem dX6_reach_162 : decode cX6_reach 162 = .ok (.ifCond .ge 12, 3) := by decide +kernel
theorem dX6_reach_165 : decode cX6_reach 165 = .ok (.aload_n 0, 1) := by decide +kernel
theorem dX6_reach_166 : decode cX6_reach 166 = .ok (.ldc 188, 2) := by decide +kernel
theorem dX6_reach_168 : decode cX6_reach 168 = .ok (.invokevirtual 76, 3) := by decide +kernel
theorem dX6_reach_171 : decode cX6_reach 171 = .ok (.goto 18, 3) := by decide +kernel
theorem dX6_reach_174 : decode cX6_reach 174 = .ok (.iload 5, 2) := by decide +kernel
theorem dX6_reach_176 : decode cX6_reach 176 = .ok (.ifCond .ne 11, 3) := by decide +kernel
theorem dX6_reach_179 : decode cX6_reach 179 = .ok (.iload 8, 2) := by decide +kernel
theorem dX6_reach_181 : decode cX6_reach 181 = .ok (.invokestatic 197, 3) := by decide +kernel
theorem dX6_reach_184 : decode cX6_reach 184 = .ok (.goto 5, 3) := by decide +kernel
theorem dX6_reach_187 : decode cX6_reach 187 = .ok (.iload 8, 2) := by decide +kernel
theorem dX6_reach_189 : decode cX6_reach 189 = .ok (.ireturn, 1) := by decide +kernel
theorem dX6_odds_0 : decode cX6_odds 0 = .ok (.aload_n 0, 1) := by decide +kernel
theorem dX6_odds_1 : decode cX6_odds 1 = .ok (.iload_n 1, 1) := by decide +kernel
theorem dX6_odds_2 : decode cX6_odds 2 = .ok (.invokevirtual 81, 3) := by decide +kernel
theorem dX6_odds_5 : decode cX6_odds 5 = .ok (.ifCond .eq 19, 3) := by decide +kernel
theorem dX6_odds_8 : decode cX6_odds 8 = .ok (.iload_n 2, 1) := by decide +kernel
theorem dX6_odds_9 : decode cX6_odds 9 = .ok (.invokestatic 88, 3) := by decide +kernel
theorem dX6_odds_12 : decode cX6_odds 12 = .ok (.ifCond .eq 12, 3) := by decide +kernel
theorem dX6_odds_15 : decode cX6_odds 15 = .ok (.iload_n 3, 1) := by decide +kernel
theorem dX6_odds_16 : decode cX6_odds 16 = .ok (.iconst 0, 1) := by decide +kernel
theorem dX6_odds_17 : decode cX6_odds 17 = .ok (.iconst 1, 1) := by decide +kernel
theorem dX6_odds_18 : decode cX6_odds 18 = .ok (.invokestatic 53, 3) := by decide +kernel
theorem dX6_odds_21 : decode cX6_odds 21 = .ok (.ifCond .ne 10, 3) := by decide +kernel
theorem dX6_odds_24 : decode cX6_odds 24 = .ok (.aload_n 0, 1) := by decide +kernel
theorem dX6_odds_25 : decode cX6_odds 25 = .ok (.ldc 75, 2) := by decide +kernel
theorem dX6_odds_27 : decode cX6_odds 27 = .ok (.invokevirtual 76, 3) := by decide +kernel
theorem dX6_odds_30 : decode cX6_odds 30 = .ok (.ireturn, 1) := by decide +kernel
theorem dX6_odds_31 : decode cX6_odds 31 = .ok (.iconst 0, 1) := by decide +kernel
theorem dX6_odds_32 : decode cX6_odds 32 = .ok (.istore 4, 2) := by decide +kernel
theorem dX6_odds_34 : decode cX6_odds 34 = .ok (.aload_n 0, 1) := by decide +kernel
theorem dX6_odds_35 : decode cX6_odds 35 = .ok (.getfield 9, 3) := by decide +kernel
theorem dX6_odds_38 : decode cX6_odds 38 = .ok (.iconst 2, 1) := by decide +kernel
theorem dX6_odds_39 : decode cX6_odds 39 = .ok (.iaload, 1) := by decide +kernel
theorem dX6_odds_40 : decode cX6_odds 40 = .ok (.istore 5, 2) := by decide +kernel
theorem dX6_odds_42 : decode cX6_odds 42 = .ok (.iconst 0, 1) := by decide +kernel
theorem dX6_odds_43 : decode cX6_odds 43 = .ok (.istore 6, 2) := by decide +kernel
theorem dX6_odds_45 : decode cX6_odds 45 = .ok (.iload 6, 2) := by decide +kernel
theorem dX6_odds_47 : decode cX6_odds 47 = .ok (.aload_n 0, 1) := by decide +kernel
theorem dX6_odds_48 : decode cX6_odds 48 = .ok (.getfield 9, 3) := by decide +kernel
theorem dX6_odds_51 : decode cX6_odds 51 = .ok (.iconst 2, 1) := by decide +kernel
theorem dX6_odds_52 : decode cX6_odds 52 = .ok (.iaload, 1) := by decide +kernel
theorem dX6_odds_53 : decode cX6_odds 53 = .ok (.if_icmp .ge 35, 3) := by decide +kernel
theorem dX6_odds_56 : decode cX6_odds 56 = .ok (.aload_n 0, 1) := by decide +kernel
theorem dX6_odds_57 : decode cX6_odds 57 = .ok (.iload 6, 2) := by decide +kernel
theorem dX6_odds_59 : decode cX6_odds 59 = .ok (.iload_n 2, 1) := by decide +kernel
theorem dX6_odds_60 : decode cX6_odds 60 = .ok (.invokevirtual 182, 3) := by decide +kernel
theorem dX6_odds_63 : decode cX6_odds 63 = .ok (.iload 4, 2) := by decide +kernel
theorem dX6_odds_65 : decode cX6_odds 65 = .ok (.aload_n 0, 1) := by decide +kernel
theorem dX6_odds_66 : decode cX6_odds 66 = .ok (.getfield 40, 3) := by decide +kernel
theorem dX6_odds_69 : decode cX6_odds 69 = .ok (.iload_n 1, 1) := by decide +kernel
theorem dX6_odds_70 : decode cX6_odds 70 = .ok (.iaload, 1) := by decide +kernel
theorem dX6_odds_71 : decode cX6_odds 71 = .ok (.ifCond .lt 7, 3) := by decide +kernel
theorem dX6_odds_74 : decode cX6_odds 74 = .ok (.iconst 1, 1) := by decide +kernel
theorem dX6_odds_75 : decode cX6_odds 75 = .ok (.goto 4, 3) := by decide +kernel
theorem dX6_odds_78 : decode cX6_odds 78 = .ok (.iconst 0, 1) := by decide +kernel
theorem dX6_odds_79 : decode cX6_odds 79 = .ok (.iadd, 1) := by decide +kernel
theorem dX6_odds_80 : decode cX6_odds 80 = .ok (.istore 4, 2) := by decide +kernel
theorem dX6_odds_82 : decode cX6_odds 82 = .ok (.iinc 6 1, 3) := by decide +kernel
theorem dX6_odds_85 : decode cX6_odds 85 = .ok (.goto (-40), 3) := by decide +kernel
theorem dX6_odds_88 : decode cX6_odds 88 = .ok (.iload 5, 2) := by decide +kernel
theorem dX6_odds_90 : decode cX6_odds 90 = .ok (.istore 6, 2) := by decide +kernel
theorem dX6_odds_92 : decode cX6_odds 92 = .ok (.iload 6, 2) := by decide +kernel
theorem dX6_odds_94 : decode cX6_odds 94 = .ok (.iconst 1, 1) := by decide +kernel
theorem dX6_odds_95 : decode cX6_odds 95 = .ok (.if_icmp .le 39, 3) := by decide +kernel
theorem dX6_odds_98 : decode cX6_odds 98 = .ok (.iload 4, 2) := by decide +kernel
theorem dX6_odds_100 : decode cX6_odds 100 = .ok (.iload 6, 2) := by decide +kernel
theorem dX6_odds_102 : decode cX6_odds 102 = .ok (.irem, 1) := by decide +kernel
theorem dX6_odds_103 : decode cX6_odds 103 = .ok (.ifCond .ne 25, 3) := by decide +kernel
theorem dX6_odds_106 : decode cX6_odds 106 = .ok (.iload 5, 2) := by decide +kernel
theorem dX6_odds_108 : decode cX6_odds 108 = .ok (.iload 6, 2) := by decide +kernel
theorem dX6_odds_110 : decode cX6_odds 110 = .ok (.irem, 1) := by decide +kernel
theorem dX6_odds_111 : decode cX6_odds 111 = .ok (.ifCond .ne 17, 3) := by decide +kernel
theorem dX6_odds_114 : decode cX6_odds 114 = .ok (.iload 4, 2) := by decide +kernel
theorem dX6_odds_116 : decode cX6_odds 116 = .ok (.iload 6, 2) := by decide +kernel
theorem dX6_odds_118 : decode cX6_odds 118 = .ok (.idiv, 1) := by decide +kernel
theorem dX6_odds_119 : decode cX6_odds 119 = .ok (.istore 4, 2) := by decide +kernel
theorem dX6_odds_121 : decode cX6_odds 121 = .ok (.iload 5, 2) := by decide +kernel
theorem dX6_odds_123 : decode cX6_odds 123 = .ok (.iload 6, 2) := by decide +kernel
theorem dX6_odds_125 : decode cX6_odds 125 = .ok (.idiv, 1) := by decide +kernel
theorem dX6_odds_126 : decode cX6_odds 126 = .ok (.istore 5, 2) := by decide +kernel
theorem dX6_odds_128 : decode cX6_odds 128 = .ok (.iinc 6 (-1), 3) := by decide +kernel
theorem dX6_odds_131 : decode cX6_odds 131 = .ok (.goto (-39), 3) := by decide +kernel
theorem dX6_odds_134 : decode cX6_odds 134 = .ok (.iload_n 3, 1) := by decide +kernel
theorem dX6_odds_135 : decode cX6_odds 135 = .ok (.ifCond .ne 8, 3) := by decide +kernel
theorem dX6_odds_138 : decode cX6_odds 138 = .ok (.iload 4, 2) := by decide +kernel
theorem dX6_odds_140 : decode cX6_odds 140 = .ok (.goto 5, 3) := by decide +kernel
theorem dX6_odds_143 : decode cX6_odds 143 = .ok (.iload 5, 2) := by decide +kernel
theorem dX6_odds_145 : decode cX6_odds 145 = .ok (.ireturn, 1) := by decide +kernel
theorem dX6_isSo_0 : decode cX6_isSo 0 = .ok (.aload_n 0, 1) := by decide +kernel
theorem dX6_isSo_1 : decode cX6_isSo 1 = .ok (.getfield 22, 3) := by decide +kernel
theorem dX6_isSo_4 : decode cX6_isSo 4 = .ok (.iload_n 1, 1) := by decide +kernel
theorem dX6_isSo_5 : decode cX6_isSo 5 = .ok (.iaload, 1) := by decide +kernel
theorem dX6_isSo_6 : decode cX6_isSo 6 = .ok (.aload_n 0, 1) := by decide +kernel
theorem dX6_isSo_7 : decode cX6_isSo 7 = .ok (.getfield 9, 3) := by decide +kernel
theorem dX6_isSo_10 : decode cX6_isSo 10 = .ok (.iconst 2, 1) := by decide +kernel
theorem dX6_isSo_11 : decode cX6_isSo 11 = .ok (.iaload, 1) := by decide +kernel
theorem dX6_isSo_12 : decode cX6_isSo 12 = .ok (.if_icmp .gt 7, 3) := by decide +kernel
theorem dX6_isSo_15 : decode cX6_isSo 15 = .ok (.iconst 1, 1) := by decide +kernel
theorem dX6_isSo_16 : decode cX6_isSo 16 = .ok (.goto 4, 3) := by decide +kernel
theorem dX6_isSo_19 : decode cX6_isSo 19 = .ok (.iconst 0, 1) := by decide +kernel
theorem dX6_isSo_20 : decode cX6_isSo 20 = .ok (.istore_n 2, 1) := by decide +kernel
theorem dX6_isSo_21 : decode cX6_isSo 21 = .ok (.iconst 0, 1) := by decide +kernel
theorem dX6_isSo_22 : decode cX6_isSo 22 = .ok (.istore_n 3, 1) := by decide +kernel
theorem dX6_isSo_23 : decode cX6_isSo 23 = .ok (.iload_n 3, 1) := by decide +kernel
theorem dX6_isSo_24 : decode cX6_isSo 24 = .ok (.aload_n 0, 1) := by decide +kernel
theorem dX6_isSo_25 : decode cX6_isSo 25 = .ok (.getfield 22, 3) := by decide +kernel
theorem dX6_isSo_28 : decode cX6_isSo 28 = .ok (.iload_n 1, 1) := by decide +kernel
theorem dX6_isSo_29 : decode cX6_isSo 29 = .ok (.iaload, 1) := by decide +kernel
theorem dX6_isSo_30 : decode cX6_isSo 30 = .ok (.if_icmp .ge 39, 3) := by decide +kernel
theorem dX6_isSo_33 : decode cX6_isSo 33 = .ok (.iload_n 2, 1) := by decide +kernel
theorem dX6_isSo_34 : decode cX6_isSo 34 = .ok (.ifCond .eq 35, 3) := by decide +kernel
theorem dX6_isSo_37 : decode cX6_isSo 37 = .ok (.aload_n 0, 1) := by decide +kernel
theorem dX6_isSo_38 : decode cX6_isSo 38 = .ok (.getfield 25, 3) := by decide +kernel
theorem dX6_isSo_41 : decode cX6_isSo 41 = .ok (.bipush 24, 2) := by decide +kernel
theorem dX6_isSo_43 : decode cX6_isSo 43 = .ok (.iload_n 1, 1) := by decide +kernel
theorem dX6_isSo_44 : decode cX6_isSo 44 = .ok (.imul, 1) := by decide +kernel
theorem dX6_isSo_45 : decode cX6_isSo 45 = .ok (.iload_n 3, 1) := by decide +kernel
theorem dX6_isSo_46 : decode cX6_isSo 46 = .ok (.iadd, 1) := by decide +kernel
theorem dX6_isSo_47 : decode cX6_isSo 47 = .ok (.iaload, 1) := by decide +kernel
theorem dX6_isSo_48 : decode cX6_isSo 48 = .ok (.aload_n 0, 1) := by decide +kernel
theorem dX6_isSo_49 : decode cX6_isSo 49 = .ok (.getfield 43, 3) := by decide +kernel
theorem dX6_isSo_52 : decode cX6_isSo 52 = .ok (.iload_n 3, 1) := by decide +kernel
theorem dX6_isSo_53 : decode cX6_isSo 53 = .ok (.iaload, 1) := by decide +kernel
theorem dX6_isSo_54 : decode cX6_isSo 54 = .ok (.if_icmp .ne 7, 3) := by decide +kernel
theorem dX6_isSo_57 : decode cX6_isSo 57 = .ok (.iconst 1, 1) := by decide +kernel
theorem dX6_isSo_58 : decode cX6_isSo 58 = .ok (.goto 4, 3) := by decide +kernel
theorem dX6_isSo_61 : decode cX6_isSo 61 = .ok (.iconst 0, 1) := by decide +kernel
theorem dX6_isSo_62 : decode cX6_isSo 62 = .ok (.istore_n 2, 1) := by decide +kernel
theorem dX6_isSo_63 : decode cX6_isSo 63 = .ok (.iinc 3 1, 3) := by decide +kernel
theorem dX6_isSo_66 : decode cX6_isSo 66 = .ok (.goto (-43), 3) := by decide +kernel
theorem dX6_isSo_69 : decode cX6_isSo 69 = .ok (.iload_n 2, 1) := by decide +kernel
theorem dX6_isSo_70 : decode cX6_isSo 70 = .ok (.ireturn, 1) := by decide +kernel
theorem dX6_fits_0 : decode cX6_fits 0 = .ok (.iload_n 1, 1) := by decide +kernel
theorem dX6_fits_1 : decode cX6_fits 1 = .ok (.invokestatic 200, 3) := by decide +kernel
theorem dX6_fits_4 : decode cX6_fits 4 = .ok (.ifCond .eq 12, 3) := by decide +kernel
theorem dX6_fits_7 : decode cX6_fits 7 = .ok (.iload_n 2, 1) := by decide +kernel
theorem dX6_fits_8 : decode cX6_fits 8 = .ok (.iconst 0, 1) := by decide +kernel
theorem dX6_fits_9 : decode cX6_fits 9 = .ok (.iconst 1, 1) := by decide +kernel
theorem dX6_fits_10 : decode cX6_fits 10 = .ok (.invokestatic 53, 3) := by decide +kernel
theorem dX6_fits_13 : decode cX6_fits 13 = .ok (.ifCond .ne 10, 3) := by decide +kernel
theorem dX6_fits_16 : decode cX6_fits 16 = .ok (.aload_n 0, 1) := by decide +kernel
theorem dX6_fits_17 : decode cX6_fits 17 = .ok (.ldc 75, 2) := by decide +kernel
theorem dX6_fits_19 : decode cX6_fits 19 = .ok (.invokevirtual 76, 3) := by decide +kernel
theorem dX6_fits_22 : decode cX6_fits 22 = .ok (.ireturn, 1) := by decide +kernel
theorem dX6_fits_23 : decode cX6_fits 23 = .ok (.aload_n 0, 1) := by decide +kernel
theorem dX6_fits_24 : decode cX6_fits 24 = .ok (.getfield 19, 3) := by decide +kernel
theorem dX6_fits_27 : decode cX6_fits 27 = .ok (.iload_n 1, 1) := by decide +kernel
theorem dX6_fits_28 : decode cX6_fits 28 = .ok (.iaload, 1) := by decide +kernel
theorem dX6_fits_29 : decode cX6_fits 29 = .ok (.ifCond .ne 10, 3) := by decide +kernel
theorem dX6_fits_32 : decode cX6_fits 32 = .ok (.aload_n 0, 1) := by decide +kernel
theorem dX6_fits_33 : decode cX6_fits 33 = .ok (.ldc 188, 2) := by decide +kernel
theorem dX6_fits_35 : decode cX6_fits 35 = .ok (.invokevirtual 76, 3) := by decide +kernel
theorem dX6_fits_38 : decode cX6_fits 38 = .ok (.ireturn, 1) := by decide +kernel
theorem dX6_fits_39 : decode cX6_fits 39 = .ok (.iconst 0, 1) := by decide +kernel
theorem dX6_fits_40 : decode cX6_fits 40 = .ok (.istore_n 3, 1) := by decide +kernel
theorem dX6_fits_41 : decode cX6_fits 41 = .ok (.iconst (-1), 1) := by decide +kernel
theorem dX6_fits_42 : decode cX6_fits 42 = .ok (.istore 4, 2) := by decide +kernel
theorem dX6_fits_44 : decode cX6_fits 44 = .ok (.aload_n 0, 1) := by decide +kernel
theorem dX6_fits_45 : decode cX6_fits 45 = .ok (.getfield 9, 3) := by decide +kernel
theorem dX6_fits_48 : decode cX6_fits 48 = .ok (.iconst 2, 1) := by decide +kernel
theorem dX6_fits_49 : decode cX6_fits 49 = .ok (.iaload, 1) := by decide +kernel
theorem dX6_fits_50 : decode cX6_fits 50 = .ok (.iconst 1, 1) := by decide +kernel
theorem dX6_fits_51 : decode cX6_fits 51 = .ok (.isub, 1) := by decide +kernel
theorem dX6_fits_52 : decode cX6_fits 52 = .ok (.istore 5, 2) := by decide +kernel
theorem dX6_fits_54 : decode cX6_fits 54 = .ok (.iload 5, 2) := by decide +kernel
theorem dX6_fits_56 : decode cX6_fits 56 = .ok (.ifCond .lt 73, 3) := by decide +kernel
theorem dX6_fits_59 : decode cX6_fits 59 = .ok (.bipush 20, 2) := by decide +kernel
theorem dX6_fits_61 : decode cX6_fits 61 = .ok (.istore 6, 2) := by decide +kernel
theorem dX6_fits_63 : decode cX6_fits 63 = .ok (.iload 6, 2) := by decide +kernel
theorem dX6_fits_65 : decode cX6_fits 65 = .ok (.iconst 1, 1) := by decide +kernel
theorem dX6_fits_66 : decode cX6_fits 66 = .ok (.if_icmp .lt 57, 3) := by decide +kernel
theorem dX6_fits_69 : decode cX6_fits 69 = .ok (.aload_n 0, 1) := by decide +kernel
theorem dX6_fits_70 : decode cX6_fits 70 = .ok (.iload 5, 2) := by decide +kernel
theorem dX6_fits_72 : decode cX6_fits 72 = .ok (.iload 6, 2) := by decide +kernel
theorem dX6_fits_74 : decode cX6_fits 74 = .ok (.invokevirtual 182, 3) := by decide +kernel
theorem dX6_fits_77 : decode cX6_fits 77 = .ok (.aload_n 0, 1) := by decide +kernel
theorem dX6_fits_78 : decode cX6_fits 78 = .ok (.iload_n 1, 1) := by decide +kernel
theorem dX6_fits_79 : decode cX6_fits 79 = .ok (.invokevirtual 203, 3) := by decide +kernel
theorem dX6_fits_82 : decode cX6_fits 82 = .ok (.istore 7, 2) := by decide +kernel
theorem dX6_fits_84 : decode cX6_fits 84 = .ok (.iload_n 3, 1) := by decide +kernel
theorem dX6_fits_85 : decode cX6_fits 85 = .ok (.iload 7, 2) := by decide +kernel
theorem dX6_fits_87 : decode cX6_fits 87 = .ok (.ifCond .eq 7, 3) := by decide +kernel
theorem dX6_fits_90 : decode cX6_fits 90 = .ok (.iconst 1, 1) := by decide +kernel
theorem dX6_fits_91 : decode cX6_fits 91 = .ok (.goto 4, 3) := by decide +kernel
theorem dX6_fits_94 : decode cX6_fits 94 = .ok (.iconst 0, 1) := by decide +kernel
theorem dX6_fits_95 : decode cX6_fits 95 = .ok (.iadd, 1) := by decide +kernel
theorem dX6_fits_96 : decode cX6_fits 96 = .ok (.istore_n 3, 1) := by decide +kernel
theorem dX6_fits_97 : decode cX6_fits 97 = .ok (.iload 7, 2) := by decide +kernel
theorem dX6_fits_99 : decode cX6_fits 99 = .ok (.ifCond .eq 14, 3) := by decide +kernel
theorem dX6_fits_102 : decode cX6_fits 102 = .ok (.bipush 100, 2) := by decide +kernel
theorem dX6_fits_104 : decode cX6_fits 104 = .ok (.iload 5, 2) := by decide +kernel
theorem dX6_fits_106 : decode cX6_fits 106 = .ok (.imul, 1) := by decide +kernel
theorem dX6_fits_107 : decode cX6_fits 107 = .ok (.iload 6, 2) := by decide +kernel
theorem dX6_fits_109 : decode cX6_fits 109 = .ok (.iadd, 1) := by decide +kernel
theorem dX6_fits_110 : decode cX6_fits 110 = .ok (.goto 5, 3) := by decide +kernel
theorem dX6_fits_113 : decode cX6_fits 113 = .ok (.iload 4, 2) := by decide +kernel
theorem dX6_fits_115 : decode cX6_fits 115 = .ok (.istore 4, 2) := by decide +kernel
theorem dX6_fits_117 : decode cX6_fits 117 = .ok (.iinc 6 (-1), 3) := by decide +kernel
theorem dX6_fits_120 : decode cX6_fits 120 = .ok (.goto (-57), 3) := by decide +kernel
theorem dX6_fits_123 : decode cX6_fits 123 = .ok (.iinc 5 (-1), 3) := by decide +kernel
theorem dX6_fits_126 : decode cX6_fits 126 = .ok (.goto (-72), 3) := by decide +kernel
theorem dX6_fits_129 : decode cX6_fits 129 = .ok (.iload_n 2, 1) := by decide +kernel
theorem dX6_fits_130 : decode cX6_fits 130 = .ok (.ifCond .ne 7, 3) := by decide +kernel
theorem dX6_fits_133 : decode cX6_fits 133 = .ok (.iload_n 3, 1) := by decide +kernel
theorem dX6_fits_134 : decode cX6_fits 134 = .ok (.goto 19, 3) := by decide +kernel
theorem dX6_fits_137 : decode cX6_fits 137 = .ok (.iload 4, 2) := by decide +kernel
theorem dX6_fits_139 : decode cX6_fits 139 = .ok (.ifCond .ge 12, 3) := by decide +kernel
theorem dX6_fits_142 : decode cX6_fits 142 = .ok (.aload_n 0, 1) := by decide +kernel
theorem dX6_fits_143 : decode cX6_fits 143 = .ok (.ldc 188, 2) := by decide +kernel
theorem dX6_fits_145 : decode cX6_fits 145 = .ok (.invokevirtual 76, 3) := by decide +kernel
theorem dX6_fits_148 : decode cX6_fits 148 = .ok (.goto 5, 3) := by decide +kernel
theorem dX6_fits_151 : decode cX6_fits 151 = .ok (.iload 4, 2) := by decide +kernel
theorem dX6_fits_153 : decode cX6_fits 153 = .ok (.ireturn, 1) := by decide +kernel
theorem dX6_begins_0 : decode cX6_begins 0 = .ok (.aload_n 0, 1) := by decide +kernel
theorem dX6_begins_1 : decode cX6_begins 1 = .ok (.getfield 206, 3) := by decide +kernel
theorem dX6_begins_4 : decode cX6_begins 4 = .ok (.bipush 30, 2) := by decide +kernel
theorem dX6_begins_6 : decode cX6_begins 6 = .ok (.if_icmp .ge 23, 3) := by decide +kernel
theorem dX6_begins_9 : decode cX6_begins 9 = .ok (.aload_n 0, 1) := by decide +kernel
theorem dX6_begins_10 : decode cX6_begins 10 = .ok (.getfield 49, 3) := by decide +kernel
theorem dX6_begins_13 : decode cX6_begins 13 = .ok (.aload_n 0, 1) := by decide +kernel
theorem dX6_begins_14 : decode cX6_begins 14 = .ok (.getfield 206, 3) := by decide +kernel
theorem dX6_begins_17 : decode cX6_begins 17 = .ok (.iload_n 1, 1) := by decide +kernel
theorem dX6_begins_18 : decode cX6_begins 18 = .ok (.iastore, 1) := by decide +kernel
theorem dX6_begins_19 : decode cX6_begins 19 = .ok (.aload_n 0, 1) := by decide +kernel
theorem dX6_begins_20 : decode cX6_begins 20 = .ok (.dup, 1) := by decide +kernel
theorem dX6_begins_21 : decode cX6_begins 21 = .ok (.getfield 206, 3) := by decide +kernel
theorem dX6_begins_24 : decode cX6_begins 24 = .ok (.iconst 1, 1) := by decide +kernel
theorem dX6_begins_25 : decode cX6_begins 25 = .ok (.iadd, 1) := by decide +kernel
theorem dX6_begins_26 : decode cX6_begins 26 = .ok (.putfield 206, 3) := by decide +kernel
theorem dX6_begins_29 : decode cX6_begins 29 = .ok (.return_, 1) := by decide +kernel
theorem dX6_plainSplashes_0 : decode cX6_plainSplashes 0 = .ok (.aload_n 0, 1) := by decide +kernel
theorem dX6_plainSplashes_1 : decode cX6_plainSplashes 1 = .ok (.bipush 10, 2) := by decide +kernel
theorem dX6_plainSplashes_3 : decode cX6_plainSplashes 3 = .ok (.invokevirtual 209, 3) := by decide +kernel
theorem dX6_plainSplashes_6 : decode cX6_plainSplashes 6 = .ok (.iload_n 2, 1) := by decide +kernel
theorem dX6_plainSplashes_7 : decode cX6_plainSplashes 7 = .ok (.iload_n 1, 1) := by decide +kernel
theorem dX6_plainSplashes_8 : decode cX6_plainSplashes 8 = .ok (.iadd, 1) := by decide +kernel
theorem dX6_plainSplashes_9 : decode cX6_plainSplashes 9 = .ok (.ireturn, 1) := by decide +kernel
theorem dX6_lionSplashes_0 : decode cX6_lionSplashes 0 = .ok (.aload_n 0, 1) := by decide +kernel
theorem dX6_lionSplashes_1 : decode cX6_lionSplashes 1 = .ok (.bipush 20, 2) := by decide +kernel
theorem dX6_lionSplashes_3 : decode cX6_lionSplashes 3 = .ok (.invokevirtual 209, 3) := by decide +kernel
theorem dX6_lionSplashes_6 : decode cX6_lionSplashes 6 = .ok (.aload_n 0, 1) := by decide +kernel
theorem dX6_lionSplashes_7 : decode cX6_lionSplashes 7 = .ok (.iload_n 1, 1) := by decide +kernel
theorem dX6_lionSplashes_8 : decode cX6_lionSplashes 8 = .ok (.iload_n 2, 1) := by decide +kernel
theorem dX6_lionSplashes_9 : decode cX6_lionSplashes 9 = .ok (.invokevirtual 212, 3) := by decide +kernel
theorem dX6_lionSplashes_12 : decode cX6_lionSplashes 12 = .ok (.iconst 4, 1) := by decide +kernel
theorem dX6_lionSplashes_13 : decode cX6_lionSplashes 13 = .ok (.isub, 1) := by decide +kernel
theorem dX6_lionSplashes_14 : decode cX6_lionSplashes 14 = .ok (.ireturn, 1) := by decide +kernel
theorem dX6_splashes_0 : decode cX6_splashes 0 = .ok (.aload_n 0, 1) := by decide +kernel
theorem dX6_splashes_1 : decode cX6_splashes 1 = .ok (.iload_n 1, 1) := by decide +kernel
theorem dX6_splashes_2 : decode cX6_splashes 2 = .ok (.iconst 0, 1) := by decide +kernel
theorem dX6_splashes_3 : decode cX6_splashes 3 = .ok (.invokevirtual 57, 3) := by decide +kernel
theorem dX6_splashes_6 : decode cX6_splashes 6 = .ok (.lookupswitch 65 #[(1, 34), (4, 41), (6, 56)], 34) := by decide +kernel
theorem dX6_splashes_40 : decode cX6_splashes 40 = .ok (.aload_n 0, 1) := by decide +kernel
theorem dX6_splashes_41 : decode cX6_splashes 41 = .ok (.iload_n 1, 1) := by decide +kernel
theorem dX6_splashes_42 : decode cX6_splashes 42 = .ok (.iload_n 2, 1) := by decide +kernel
theorem dX6_splashes_43 : decode cX6_splashes 43 = .ok (.invokevirtual 215, 3) := by decide +kernel
theorem dX6_splashes_46 : decode cX6_splashes 46 = .ok (.ireturn, 1) := by decide +kernel
theorem dX6_splashes_47 : decode cX6_splashes 47 = .ok (.aload_n 0, 1) := by decide +kernel
theorem dX6_splashes_48 : decode cX6_splashes 48 = .ok (.bipush 50, 2) := by decide +kernel
theorem dX6_splashes_50 : decode cX6_splashes 50 = .ok (.invokevirtual 209, 3) := by decide +kernel
theorem dX6_splashes_53 : decode cX6_splashes 53 = .ok (.aload_n 0, 1) := by decide +kernel
theorem dX6_splashes_54 : decode cX6_splashes 54 = .ok (.iload_n 1, 1) := by decide +kernel
theorem dX6_splashes_55 : decode cX6_splashes 55 = .ok (.iload_n 2, 1) := by decide +kernel
theorem dX6_splashes_56 : decode cX6_splashes 56 = .ok (.invokevirtual 215, 3) := by decide +kernel
theorem dX6_splashes_59 : decode cX6_splashes 59 = .ok (.iconst 3, 1) := by decide +kernel
theorem dX6_splashes_60 : decode cX6_splashes 60 = .ok (.imul, 1) := by decide +kernel
theorem dX6_splashes_61 : decode cX6_splashes 61 = .ok (.ireturn, 1) := by decide +kernel
theorem dX6_splashes_62 : decode cX6_splashes 62 = .ok (.aload_n 0, 1) := by decide +kernel
theorem dX6_splashes_63 : decode cX6_splashes 63 = .ok (.bipush 70, 2) := by decide +kernel
theorem dX6_splashes_65 : decode cX6_splashes 65 = .ok (.invokevirtual 209, 3) := by decide +kernel
theorem dX6_splashes_68 : decode cX6_splashes 68 = .ok (.bipush 9, 2) := by decide +kernel
theorem dX6_splashes_70 : decode cX6_splashes 70 = .ok (.ireturn, 1) := by decide +kernel
theorem dX6_splashes_71 : decode cX6_splashes 71 = .ok (.aload_n 0, 1) := by decide +kernel
theorem dX6_splashes_72 : decode cX6_splashes 72 = .ok (.iload_n 1, 1) := by decide +kernel
theorem dX6_splashes_73 : decode cX6_splashes 73 = .ok (.iload_n 2, 1) := by decide +kernel
theorem dX6_splashes_74 : decode cX6_splashes 74 = .ok (.invokevirtual 212, 3) := by decide +kernel
theorem dX6_splashes_77 : decode cX6_splashes 77 = .ok (.ireturn, 1) := by decide +kernel
theorem dX6_plainLisps_0 : decode cX6_plainLisps 0 = .ok (.aload_n 0, 1) := by decide +kernel
theorem dX6_plainLisps_1 : decode cX6_plainLisps 1 = .ok (.bipush 11, 2) := by decide +kernel
theorem dX6_plainLisps_3 : decode cX6_plainLisps 3 = .ok (.invokevirtual 209, 3) := by decide +kernel
theorem dX6_plainLisps_6 : decode cX6_plainLisps 6 = .ok (.aload_n 0, 1) := by decide +kernel
theorem dX6_plainLisps_7 : decode cX6_plainLisps 7 = .ok (.iload_n 1, 1) := by decide +kernel
theorem dX6_plainLisps_8 : decode cX6_plainLisps 8 = .ok (.iload_n 2, 1) := by decide +kernel
theorem dX6_plainLisps_9 : decode cX6_plainLisps 9 = .ok (.invokevirtual 218, 3) := by decide +kernel
theorem dX6_plainLisps_12 : decode cX6_plainLisps 12 = .ok (.iconst 2, 1) := by decide +kernel
theorem dX6_plainLisps_13 : decode cX6_plainLisps 13 = .ok (.imul, 1) := by decide +kernel
theorem dX6_plainLisps_14 : decode cX6_plainLisps 14 = .ok (.ireturn, 1) := by decide +kernel
theorem dX6_dolphinLisps_0 : decode cX6_dolphinLisps 0 = .ok (.aload_n 0, 1) := by decide +kernel
theorem dX6_dolphinLisps_1 : decode cX6_dolphinLisps 1 = .ok (.bipush 30, 2) := by decide +kernel
theorem dX6_dolphinLisps_3 : decode cX6_dolphinLisps 3 = .ok (.invokevirtual 209, 3) := by decide +kernel
theorem dX6_dolphinLisps_6 : decode cX6_dolphinLisps 6 = .ok (.aload_n 0, 1) := by decide +kernel
theorem dX6_dolphinLisps_7 : decode cX6_dolphinLisps 7 = .ok (.iload_n 1, 1) := by decide +kernel
theorem dX6_dolphinLisps_8 : decode cX6_dolphinLisps 8 = .ok (.iload_n 2, 1) := by decide +kernel
theorem dX6_dolphinLisps_9 : decode cX6_dolphinLisps 9 = .ok (.invokevirtual 221, 3) := by decide +kernel
theorem dX6_dolphinLisps_12 : decode cX6_dolphinLisps 12 = .ok (.ineg, 1) := by decide +kernel
theorem dX6_dolphinLisps_13 : decode cX6_dolphinLisps 13 = .ok (.ireturn, 1) := by decide +kernel
theorem dX6_lisps_0 : decode cX6_lisps 0 = .ok (.aload_n 0, 1) := by decide +kernel
theorem dX6_lisps_1 : decode cX6_lisps 1 = .ok (.iload_n 1, 1) := by decide +kernel
theorem dX6_lisps_2 : decode cX6_lisps 2 = .ok (.iconst 0, 1) := by decide +kernel
theorem dX6_lisps_3 : decode cX6_lisps 3 = .ok (.invokevirtual 57, 3) := by decide +kernel
theorem dX6_lisps_6 : decode cX6_lisps 6 = .ok (.tableswitch 76 2 6 #[34, 76, 76, 41, 56], 34) := by decide +kernel
theorem dX6_lisps_40 : decode cX6_lisps 40 = .ok (.aload_n 0, 1) := by decide +kernel
theorem dX6_lisps_41 : decode cX6_lisps 41 = .ok (.iload_n 1, 1) := by decide +kernel
theorem dX6_lisps_42 : decode cX6_lisps 42 = .ok (.iload_n 2, 1) := by decide +kernel
theorem dX6_lisps_43 : decode cX6_lisps 43 = .ok (.invokevirtual 224, 3) := by decide +kernel
theorem dX6_lisps_46 : decode cX6_lisps 46 = .ok (.ireturn, 1) := by decide +kernel
theorem dX6_lisps_47 : decode cX6_lisps 47 = .ok (.aload_n 0, 1) := by decide +kernel
theorem dX6_lisps_48 : decode cX6_lisps 48 = .ok (.bipush 60, 2) := by decide +kernel
theorem dX6_lisps_50 : decode cX6_lisps 50 = .ok (.invokevirtual 209, 3) := by decide +kernel
theorem dX6_lisps_53 : decode cX6_lisps 53 = .ok (.aload_n 0, 1) := by decide +kernel
theorem dX6_lisps_54 : decode cX6_lisps 54 = .ok (.iload_n 1, 1) := by decide +kernel
theorem dX6_lisps_55 : decode cX6_lisps 55 = .ok (.iload_n 2, 1) := by decide +kernel
theorem dX6_lisps_56 : decode cX6_lisps 56 = .ok (.iconst 1, 1) := by decide +kernel
theorem dX6_lisps_57 : decode cX6_lisps 57 = .ok (.iadd, 1) := by decide +kernel
theorem dX6_lisps_58 : decode cX6_lisps 58 = .ok (.invokevirtual 224, 3) := by decide +kernel
theorem dX6_lisps_61 : decode cX6_lisps 61 = .ok (.ireturn, 1) := by decide +kernel
theorem dX6_lisps_62 : decode cX6_lisps 62 = .ok (.aload_n 0, 1) := by decide +kernel
theorem dX6_lisps_63 : decode cX6_lisps 63 = .ok (.bipush 71, 2) := by decide +kernel
theorem dX6_lisps_65 : decode cX6_lisps 65 = .ok (.invokevirtual 209, 3) := by decide +kernel
theorem dX6_lisps_68 : decode cX6_lisps 68 = .ok (.aload_n 0, 1) := by decide +kernel
theorem dX6_lisps_69 : decode cX6_lisps 69 = .ok (.iload_n 1, 1) := by decide +kernel
theorem dX6_lisps_70 : decode cX6_lisps 70 = .ok (.iload_n 2, 1) := by decide +kernel
theorem dX6_lisps_71 : decode cX6_lisps 71 = .ok (.invokevirtual 221, 3) := by decide +kernel
theorem dX6_lisps_74 : decode cX6_lisps 74 = .ok (.aload_n 0, 1) := by decide +kernel
theorem dX6_lisps_75 : decode cX6_lisps 75 = .ok (.iload_n 1, 1) := by decide +kernel
theorem dX6_lisps_76 : decode cX6_lisps 76 = .ok (.iconst 1, 1) := by decide +kernel
theorem dX6_lisps_77 : decode cX6_lisps 77 = .ok (.invokevirtual 57, 3) := by decide +kernel
theorem dX6_lisps_80 : decode cX6_lisps 80 = .ok (.iadd, 1) := by decide +kernel
theorem dX6_lisps_81 : decode cX6_lisps 81 = .ok (.ireturn, 1) := by decide +kernel
theorem dX6_lisps_82 : decode cX6_lisps 82 = .ok (.aload_n 0, 1) := by decide +kernel
theorem dX6_lisps_83 : decode cX6_lisps 83 = .ok (.iload_n 1, 1) := by decide +kernel
theorem dX6_lisps_84 : decode cX6_lisps 84 = .ok (.iload_n 2, 1) := by decide +kernel
theorem dX6_lisps_85 : decode cX6_lisps 85 = .ok (.invokevirtual 221, 3) := by decide +kernel
theorem dX6_lisps_88 : decode cX6_lisps 88 = .ok (.ireturn, 1) := by decide +kernel
theorem dX6_plainDrips_0 : decode cX6_plainDrips 0 = .ok (.aload_n 0, 1) := by decide +kernel
theorem dX6_plainDrips_1 : decode cX6_plainDrips 1 = .ok (.bipush 12, 2) := by decide +kernel
theorem dX6_plainDrips_3 : decode cX6_plainDrips 3 = .ok (.invokevirtual 209, 3) := by decide +kernel
theorem dX6_plainDrips_6 : decode cX6_plainDrips 6 = .ok (.aload_n 0, 1) := by decide +kernel
theorem dX6_plainDrips_7 : decode cX6_plainDrips 7 = .ok (.iload_n 1, 1) := by decide +kernel
theorem dX6_plainDrips_8 : decode cX6_plainDrips 8 = .ok (.iload_n 2, 1) := by decide +kernel
theorem dX6_plainDrips_9 : decode cX6_plainDrips 9 = .ok (.invokevirtual 227, 3) := by decide +kernel
theorem dX6_plainDrips_12 : decode cX6_plainDrips 12 = .ok (.aload_n 0, 1) := by decide +kernel
theorem dX6_plainDrips_13 : decode cX6_plainDrips 13 = .ok (.iload_n 1, 1) := by decide +kernel
theorem dX6_plainDrips_14 : decode cX6_plainDrips 14 = .ok (.iconst 1, 1) := by decide +kernel
theorem dX6_plainDrips_15 : decode cX6_plainDrips 15 = .ok (.invokevirtual 57, 3) := by decide +kernel
theorem dX6_plainDrips_18 : decode cX6_plainDrips 18 = .ok (.isub, 1) := by decide +kernel
theorem dX6_plainDrips_19 : decode cX6_plainDrips 19 = .ok (.ireturn, 1) := by decide +kernel
theorem dX6_drips_0 : decode cX6_drips 0 = .ok (.aload_n 0, 1) := by decide +kernel
theorem dX6_drips_1 : decode cX6_drips 1 = .ok (.iload_n 1, 1) := by decide +kernel
theorem dX6_drips_2 : decode cX6_drips 2 = .ok (.iconst 0, 1) := by decide +kernel
theorem dX6_drips_3 : decode cX6_drips 3 = .ok (.invokevirtual 57, 3) := by decide +kernel
theorem dX6_drips_6 : decode cX6_drips 6 = .ok (.lookupswitch 56 #[(3, 26), (4, 41)], 26) := by decide +kernel
theorem dX6_drips_32 : decode cX6_drips 32 = .ok (.aload_n 0, 1) := by decide +kernel
theorem dX6_drips_33 : decode cX6_drips 33 = .ok (.bipush 40, 2) := by decide +kernel
theorem dX6_drips_35 : decode cX6_drips 35 = .ok (.invokevirtual 209, 3) := by decide +kernel
theorem dX6_drips_38 : decode cX6_drips 38 = .ok (.aload_n 0, 1) := by decide +kernel
theorem dX6_drips_39 : decode cX6_drips 39 = .ok (.iload_n 1, 1) := by decide +kernel
theorem dX6_drips_40 : decode cX6_drips 40 = .ok (.iload_n 2, 1) := by decide +kernel
theorem dX6_drips_41 : decode cX6_drips 41 = .ok (.iconst 2, 1) := by decide +kernel
theorem dX6_drips_42 : decode cX6_drips 42 = .ok (.idiv, 1) := by decide +kernel
theorem dX6_drips_43 : decode cX6_drips 43 = .ok (.invokevirtual 230, 3) := by decide +kernel
theorem dX6_drips_46 : decode cX6_drips 46 = .ok (.ireturn, 1) := by decide +kernel
theorem dX6_drips_47 : decode cX6_drips 47 = .ok (.aload_n 0, 1) := by decide +kernel
theorem dX6_drips_48 : decode cX6_drips 48 = .ok (.bipush 51, 2) := by decide +kernel
theorem dX6_drips_50 : decode cX6_drips 50 = .ok (.invokevirtual 209, 3) := by decide +kernel
theorem dX6_drips_53 : decode cX6_drips 53 = .ok (.aload_n 0, 1) := by decide +kernel
theorem dX6_drips_54 : decode cX6_drips 54 = .ok (.iload_n 1, 1) := by decide +kernel
theorem dX6_drips_55 : decode cX6_drips 55 = .ok (.iload_n 2, 1) := by decide +kernel
theorem dX6_drips_56 : decode cX6_drips 56 = .ok (.invokevirtual 230, 3) := by decide +kernel
theorem dX6_drips_59 : decode cX6_drips 59 = .ok (.iload_n 1, 1) := by decide +kernel
theorem dX6_drips_60 : decode cX6_drips 60 = .ok (.ixor, 1) := by decide +kernel
theorem dX6_drips_61 : decode cX6_drips 61 = .ok (.ireturn, 1) := by decide +kernel
theorem dX6_drips_62 : decode cX6_drips 62 = .ok (.aload_n 0, 1) := by decide +kernel
theorem dX6_drips_63 : decode cX6_drips 63 = .ok (.iload_n 1, 1) := by decide +kernel
theorem dX6_drips_64 : decode cX6_drips 64 = .ok (.iload_n 2, 1) := by decide +kernel
theorem dX6_drips_65 : decode cX6_drips 65 = .ok (.invokevirtual 230, 3) := by decide +kernel
theorem dX6_drips_68 : decode cX6_drips 68 = .ok (.ireturn, 1) := by decide +kernel
theorem dX6_plainParts_0 : decode cX6_plainParts 0 = .ok (.aload_n 0, 1) := by decide +kernel
theorem dX6_plainParts_1 : decode cX6_plainParts 1 = .ok (.bipush 13, 2) := by decide +kernel
theorem dX6_plainParts_3 : decode cX6_plainParts 3 = .ok (.invokevirtual 209, 3) := by decide +kernel
theorem dX6_plainParts_6 : decode cX6_plainParts 6 = .ok (.aload_n 0, 1) := by decide +kernel
theorem dX6_plainParts_7 : decode cX6_plainParts 7 = .ok (.iload_n 1, 1) := by decide +kernel
theorem dX6_plainParts_8 : decode cX6_plainParts 8 = .ok (.iconst 1, 1) := by decide +kernel
theorem dX6_plainParts_9 : decode cX6_plainParts 9 = .ok (.invokevirtual 57, 3) := by decide +kernel
theorem dX6_plainParts_12 : decode cX6_plainParts 12 = .ok (.iload_n 1, 1) := by decide +kernel
theorem dX6_plainParts_13 : decode cX6_plainParts 13 = .ok (.isub, 1) := by decide +kernel
theorem dX6_plainParts_14 : decode cX6_plainParts 14 = .ok (.istore_n 3, 1) := by decide +kernel
theorem dX6_plainParts_15 : decode cX6_plainParts 15 = .ok (.aload_n 0, 1) := by decide +kernel
theorem dX6_plainParts_16 : decode cX6_plainParts 16 = .ok (.iload_n 3, 1) := by decide +kernel
theorem dX6_plainParts_17 : decode cX6_plainParts 17 = .ok (.ifCond .ne 7, 3) := by decide +kernel
theorem dX6_plainParts_20 : decode cX6_plainParts 20 = .ok (.iconst 1, 1) := by decide +kernel
theorem dX6_plainParts_21 : decode cX6_plainParts 21 = .ok (.goto 4, 3) := by decide +kernel
theorem dX6_plainParts_24 : decode cX6_plainParts 24 = .ok (.iconst 0, 1) := by decide +kernel
theorem dX6_plainParts_25 : decode cX6_plainParts 25 = .ok (.putfield 233, 3) := by decide +kernel
theorem dX6_plainParts_28 : decode cX6_plainParts 28 = .ok (.aload_n 0, 1) := by decide +kernel
theorem dX6_plainParts_29 : decode cX6_plainParts 29 = .ok (.getfield 233, 3) := by decide +kernel
theorem dX6_plainParts_32 : decode cX6_plainParts 32 = .ok (.ifCond .eq 7, 3) := by decide +kernel
theorem dX6_plainParts_35 : decode cX6_plainParts 35 = .ok (.iconst 0, 1) := by decide +kernel
theorem dX6_plainParts_36 : decode cX6_plainParts 36 = .ok (.goto 6, 3) := by decide +kernel
theorem dX6_plainParts_39 : decode cX6_plainParts 39 = .ok (.iload_n 2, 1) := by decide +kernel
theorem dX6_plainParts_40 : decode cX6_plainParts 40 = .ok (.iload_n 3, 1) := by decide +kernel
theorem dX6_plainParts_41 : decode cX6_plainParts 41 = .ok (.idiv, 1) := by decide +kernel
theorem dX6_plainParts_42 : decode cX6_plainParts 42 = .ok (.ireturn, 1) := by decide +kernel
theorem dX6_partsBy_0 : decode cX6_partsBy 0 = .ok (.aload_n 0, 1) := by decide +kernel
theorem dX6_partsBy_1 : decode cX6_partsBy 1 = .ok (.iload_n 1, 1) := by decide +kernel
theorem dX6_partsBy_2 : decode cX6_partsBy 2 = .ok (.iconst 0, 1) := by decide +kernel
theorem dX6_partsBy_3 : decode cX6_partsBy 3 = .ok (.invokevirtual 57, 3) := by decide +kernel
theorem dX6_partsBy_6 : decode cX6_partsBy 6 = .ok (.iconst 1, 1) := by decide +kernel
theorem dX6_partsBy_7 : decode cX6_partsBy 7 = .ok (.if_icmp .eq 13, 3) := by decide +kernel
theorem dX6_partsBy_10 : decode cX6_partsBy 10 = .ok (.aload_n 0, 1) := by decide +kernel
theorem dX6_partsBy_11 : decode cX6_partsBy 11 = .ok (.iload_n 1, 1) := by decide +kernel
theorem dX6_partsBy_12 : decode cX6_partsBy 12 = .ok (.iconst 0, 1) := by decide +kernel
theorem dX6_partsBy_13 : decode cX6_partsBy 13 = .ok (.invokevirtual 57, 3) := by decide +kernel
theorem dX6_partsBy_16 : decode cX6_partsBy 16 = .ok (.iconst 4, 1) := by decide +kernel
theorem dX6_partsBy_17 : decode cX6_partsBy 17 = .ok (.if_icmp .ne 36, 3) := by decide +kernel
theorem dX6_partsBy_20 : decode cX6_partsBy 20 = .ok (.aload_n 0, 1) := by decide +kernel
theorem dX6_partsBy_21 : decode cX6_partsBy 21 = .ok (.bipush 21, 2) := by decide +kernel
theorem dX6_partsBy_23 : decode cX6_partsBy 23 = .ok (.invokevirtual 209, 3) := by decide +kernel
theorem dX6_partsBy_26 : decode cX6_partsBy 26 = .ok (.aload_n 0, 1) := by decide +kernel
theorem dX6_partsBy_27 : decode cX6_partsBy 27 = .ok (.iload_n 1, 1) := by decide +kernel
theorem dX6_partsBy_28 : decode cX6_partsBy 28 = .ok (.iload_n 2, 1) := by decide +kernel
theorem dX6_partsBy_29 : decode cX6_partsBy 29 = .ok (.invokevirtual 236, 3) := by decide +kernel
theorem dX6_partsBy_32 : decode cX6_partsBy 32 = .ok (.istore_n 3, 1) := by decide +kernel
theorem dX6_partsBy_33 : decode cX6_partsBy 33 = .ok (.aload_n 0, 1) := by decide +kernel
theorem dX6_partsBy_34 : decode cX6_partsBy 34 = .ok (.getfield 233, 3) := by decide +kernel
theorem dX6_partsBy_37 : decode cX6_partsBy 37 = .ok (.ifCond .eq 7, 3) := by decide +kernel
theorem dX6_partsBy_40 : decode cX6_partsBy 40 = .ok (.iconst 0, 1) := by decide +kernel
theorem dX6_partsBy_41 : decode cX6_partsBy 41 = .ok (.goto 11, 3) := by decide +kernel
theorem dX6_partsBy_44 : decode cX6_partsBy 44 = .ok (.iload_n 3, 1) := by decide +kernel
theorem dX6_partsBy_45 : decode cX6_partsBy 45 = .ok (.aload_n 0, 1) := by decide +kernel
theorem dX6_partsBy_46 : decode cX6_partsBy 46 = .ok (.iload_n 1, 1) := by decide +kernel
theorem dX6_partsBy_47 : decode cX6_partsBy 47 = .ok (.iconst 1, 1) := by decide +kernel
theorem dX6_partsBy_48 : decode cX6_partsBy 48 = .ok (.invokevirtual 227, 3) := by decide +kernel
theorem dX6_partsBy_51 : decode cX6_partsBy 51 = .ok (.iadd, 1) := by decide +kernel
theorem dX6_partsBy_52 : decode cX6_partsBy 52 = .ok (.ireturn, 1) := by decide +kernel
theorem dX6_partsBy_53 : decode cX6_partsBy 53 = .ok (.aload_n 0, 1) := by decide +kernel
theorem dX6_partsBy_54 : decode cX6_partsBy 54 = .ok (.iload_n 1, 1) := by decide +kernel
theorem dX6_partsBy_55 : decode cX6_partsBy 55 = .ok (.iload_n 2, 1) := by decide +kernel
theorem dX6_partsBy_56 : decode cX6_partsBy 56 = .ok (.invokevirtual 236, 3) := by decide +kernel
theorem dX6_partsBy_59 : decode cX6_partsBy 59 = .ok (.ireturn, 1) := by decide +kernel
theorem dX6_voice_0 : decode cX6_voice 0 = .ok (.aload_n 0, 1) := by decide +kernel
theorem dX6_voice_1 : decode cX6_voice 1 = .ok (.iload_n 1, 1) := by decide +kernel
theorem dX6_voice_2 : decode cX6_voice 2 = .ok (.invokevirtual 81, 3) := by decide +kernel
theorem dX6_voice_5 : decode cX6_voice 5 = .ok (.ifCond .eq 12, 3) := by decide +kernel
theorem dX6_voice_8 : decode cX6_voice 8 = .ok (.iload_n 2, 1) := by decide +kernel
theorem dX6_voice_9 : decode cX6_voice 9 = .ok (.iconst 0, 1) := by decide +kernel
theorem dX6_voice_10 : decode cX6_voice 10 = .ok (.iconst 3, 1) := by decide +kernel
theorem dX6_voice_11 : decode cX6_voice 11 = .ok (.invokestatic 53, 3) := by decide +kernel
theorem dX6_voice_14 : decode cX6_voice 14 = .ok (.ifCond .ne 10, 3) := by decide +kernel
theorem dX6_voice_17 : decode cX6_voice 17 = .ok (.aload_n 0, 1) := by decide +kernel
theorem dX6_voice_18 : decode cX6_voice 18 = .ok (.ldc 75, 2) := by decide +kernel
theorem dX6_voice_20 : decode cX6_voice 20 = .ok (.invokevirtual 76, 3) := by decide +kernel
theorem dX6_voice_23 : decode cX6_voice 23 = .ok (.ireturn, 1) := by decide +kernel
theorem dX6_voice_24 : decode cX6_voice 24 = .ok (.aload_n 0, 1) := by decide +kernel
theorem dX6_voice_25 : decode cX6_voice 25 = .ok (.iconst 0, 1) := by decide +kernel
theorem dX6_voice_26 : decode cX6_voice 26 = .ok (.putfield 206, 3) := by decide +kernel
theorem dX6_voice_29 : decode cX6_voice 29 = .ok (.aload_n 0, 1) := by decide +kernel
theorem dX6_voice_30 : decode cX6_voice 30 = .ok (.iconst 0, 1) := by decide +kernel
theorem dX6_voice_31 : decode cX6_voice 31 = .ok (.putfield 233, 3) := by decide +kernel
theorem dX6_voice_34 : decode cX6_voice 34 = .ok (.iload_n 2, 1) := by decide +kernel
theorem dX6_voice_35 : decode cX6_voice 35 = .ok (.ifCond .ne 12, 3) := by decide +kernel
theorem dX6_voice_38 : decode cX6_voice 38 = .ok (.aload_n 0, 1) := by decide +kernel
theorem dX6_voice_39 : decode cX6_voice 39 = .ok (.iload_n 1, 1) := by decide +kernel
theorem dX6_voice_40 : decode cX6_voice 40 = .ok (.iload_n 3, 1) := by decide +kernel
theorem dX6_voice_41 : decode cX6_voice 41 = .ok (.invokevirtual 218, 3) := by decide +kernel
theorem dX6_voice_44 : decode cX6_voice 44 = .ok (.goto 37, 3) := by decide +kernel
theorem dX6_voice_47 : decode cX6_voice 47 = .ok (.iload_n 2, 1) := by decide +kernel
theorem dX6_voice_48 : decode cX6_voice 48 = .ok (.iconst 1, 1) := by decide +kernel
theorem dX6_voice_49 : decode cX6_voice 49 = .ok (.if_icmp .ne 12, 3) := by decide +kernel
theorem dX6_voice_52 : decode cX6_voice 52 = .ok (.aload_n 0, 1) := by decide +kernel
theorem dX6_voice_53 : decode cX6_voice 53 = .ok (.iload_n 1, 1) := by decide +kernel
theorem dX6_voice_54 : decode cX6_voice 54 = .ok (.iload_n 3, 1) := by decide +kernel
theorem dX6_voice_55 : decode cX6_voice 55 = .ok (.invokevirtual 227, 3) := by decide +kernel
theorem dX6_voice_58 : decode cX6_voice 58 = .ok (.goto 23, 3) := by decide +kernel
theorem dX6_voice_61 : decode cX6_voice 61 = .ok (.iload_n 2, 1) := by decide +kernel
theorem dX6_voice_62 : decode cX6_voice 62 = .ok (.iconst 2, 1) := by decide +kernel
theorem dX6_voice_63 : decode cX6_voice 63 = .ok (.if_icmp .ne 12, 3) := by decide +kernel
theorem dX6_voice_66 : decode cX6_voice 66 = .ok (.aload_n 0, 1) := by decide +kernel
theorem dX6_voice_67 : decode cX6_voice 67 = .ok (.iload_n 1, 1) := by decide +kernel
theorem dX6_voice_68 : decode cX6_voice 68 = .ok (.iload_n 3, 1) := by decide +kernel
theorem dX6_voice_69 : decode cX6_voice 69 = .ok (.invokevirtual 239, 3) := by decide +kernel
theorem dX6_voice_72 : decode cX6_voice 72 = .ok (.goto 9, 3) := by decide +kernel
theorem dX6_voice_75 : decode cX6_voice 75 = .ok (.aload_n 0, 1) := by decide +kernel
theorem dX6_voice_76 : decode cX6_voice 76 = .ok (.iload_n 1, 1) := by decide +kernel
theorem dX6_voice_77 : decode cX6_voice 77 = .ok (.iload_n 3, 1) := by decide +kernel
theorem dX6_voice_78 : decode cX6_voice 78 = .ok (.invokevirtual 242, 3) := by decide +kernel
theorem dX6_voice_81 : decode cX6_voice 81 = .ok (.istore 4, 2) := by decide +kernel
theorem dX6_voice_83 : decode cX6_voice 83 = .ok (.aload_n 0, 1) := by decide +kernel
theorem dX6_voice_84 : decode cX6_voice 84 = .ok (.getfield 233, 3) := by decide +kernel
theorem dX6_voice_87 : decode cX6_voice 87 = .ok (.ifCond .eq 12, 3) := by decide +kernel
theorem dX6_voice_90 : decode cX6_voice 90 = .ok (.aload_n 0, 1) := by decide +kernel
theorem dX6_voice_91 : decode cX6_voice 91 = .ok (.ldc 245, 2) := by decide +kernel
theorem dX6_voice_93 : decode cX6_voice 93 = .ok (.invokevirtual 76, 3) := by decide +kernel
theorem dX6_voice_96 : decode cX6_voice 96 = .ok (.goto 5, 3) := by decide +kernel
theorem dX6_voice_99 : decode cX6_voice 99 = .ok (.iload 4, 2) := by decide +kernel
theorem dX6_voice_101 : decode cX6_voice 101 = .ok (.ireturn, 1) := by decide +kernel
theorem dX6_body_0 : decode cX6_body 0 = .ok (.iload_n 1, 1) := by decide +kernel
theorem dX6_body_1 : decode cX6_body 1 = .ok (.iconst 0, 1) := by decide +kernel
theorem dX6_body_2 : decode cX6_body 2 = .ok (.aload_n 0, 1) := by decide +kernel
theorem dX6_body_3 : decode cX6_body 3 = .ok (.getfield 206, 3) := by decide +kernel
theorem dX6_body_6 : decode cX6_body 6 = .ok (.iconst 1, 1) := by decide +kernel
theorem dX6_body_7 : decode cX6_body 7 = .ok (.isub, 1) := by decide +kernel
theorem dX6_body_8 : decode cX6_body 8 = .ok (.invokestatic 53, 3) := by decide +kernel
theorem dX6_body_11 : decode cX6_body 11 = .ok (.ifCond .eq 12, 3) := by decide +kernel
theorem dX6_body_14 : decode cX6_body 14 = .ok (.aload_n 0, 1) := by decide +kernel
theorem dX6_body_15 : decode cX6_body 15 = .ok (.getfield 49, 3) := by decide +kernel
theorem dX6_body_18 : decode cX6_body 18 = .ok (.iload_n 1, 1) := by decide +kernel
theorem dX6_body_19 : decode cX6_body 19 = .ok (.iaload, 1) := by decide +kernel
theorem dX6_body_20 : decode cX6_body 20 = .ok (.goto 9, 3) := by decide +kernel
theorem dX6_body_23 : decode cX6_body 23 = .ok (.aload_n 0, 1) := by decide +kernel
theorem dX6_body_24 : decode cX6_body 24 = .ok (.ldc 188, 2) := by decide +kernel
theorem dX6_body_26 : decode cX6_body 26 = .ok (.invokevirtual 76, 3) := by decide +kernel
theorem dX6_body_29 : decode cX6_body 29 = .ok (.ireturn, 1) := by decide +kernel
theorem dX6_isSheet_0 : decode cX6_isSheet 0 = .ok (.iload_n 0, 1) := by decide +kernel
theorem dX6_isSheet_1 : decode cX6_isSheet 1 = .ok (.iconst 0, 1) := by decide +kernel
theorem dX6_isSheet_2 : decode cX6_isSheet 2 = .ok (.iconst 3, 1) := by decide +kernel
theorem dX6_isSheet_3 : decode cX6_isSheet 3 = .ok (.invokestatic 53, 3) := by decide +kernel
theorem dX6_isSheet_6 : decode cX6_isSheet 6 = .ok (.ireturn, 1) := by decide +kernel
theorem dX6_sheet_0 : decode cX6_sheet 0 = .ok (.iload_n 1, 1) := by decide +kernel
theorem dX6_sheet_1 : decode cX6_sheet 1 = .ok (.invokestatic 200, 3) := by decide +kernel
theorem dX6_sheet_4 : decode cX6_sheet 4 = .ok (.ifCond .eq 25, 3) := by decide +kernel
theorem dX6_sheet_7 : decode cX6_sheet 7 = .ok (.iload_n 2, 1) := by decide +kernel
theorem dX6_sheet_8 : decode cX6_sheet 8 = .ok (.ifCond .eq 28, 3) := by decide +kernel
theorem dX6_sheet_11 : decode cX6_sheet 11 = .ok (.iload_n 2, 1) := by decide +kernel
theorem dX6_sheet_12 : decode cX6_sheet 12 = .ok (.bipush 8, 2) := by decide +kernel
theorem dX6_sheet_14 : decode cX6_sheet 14 = .ok (.if_icmp .eq 22, 3) := by decide +kernel
theorem dX6_sheet_17 : decode cX6_sheet 17 = .ok (.iload_n 2, 1) := by decide +kernel
theorem dX6_sheet_18 : decode cX6_sheet 18 = .ok (.bipush 16, 2) := by decide +kernel
theorem dX6_sheet_20 : decode cX6_sheet 20 = .ok (.if_icmp .eq 16, 3) := by decide +kernel
theorem dX6_sheet_23 : decode cX6_sheet 23 = .ok (.iload_n 2, 1) := by decide +kernel
theorem dX6_sheet_24 : decode cX6_sheet 24 = .ok (.bipush 32, 2) := by decide +kernel
theorem dX6_sheet_26 : decode cX6_sheet 26 = .ok (.if_icmp .eq 10, 3) := by decide +kernel
theorem dX6_sheet_29 : decode cX6_sheet 29 = .ok (.aload_n 0, 1) := by decide +kernel
theorem dX6_sheet_30 : decode cX6_sheet 30 = .ok (.ldc 75, 2) := by decide +kernel
theorem dX6_sheet_32 : decode cX6_sheet 32 = .ok (.invokevirtual 76, 3) := by decide +kernel
theorem dX6_sheet_35 : decode cX6_sheet 35 = .ok (.ireturn, 1) := by decide +kernel
theorem dX6_sheet_36 : decode cX6_sheet 36 = .ok (.iload_n 2, 1) := by decide +kernel
theorem dX6_sheet_37 : decode cX6_sheet 37 = .ok (.ifCond .le 14, 3) := by decide +kernel
theorem dX6_sheet_40 : decode cX6_sheet 40 = .ok (.iload_n 3, 1) := by decide +kernel
theorem dX6_sheet_41 : decode cX6_sheet 41 = .ok (.ifCond .ge 10, 3) := by decide +kernel
theorem dX6_sheet_44 : decode cX6_sheet 44 = .ok (.aload_n 0, 1) := by decide +kernel
theorem dX6_sheet_45 : decode cX6_sheet 45 = .ok (.ldc 98, 2) := by decide +kernel
theorem dX6_sheet_47 : decode cX6_sheet 47 = .ok (.invokevirtual 76, 3) := by decide +kernel
theorem dX6_sheet_50 : decode cX6_sheet 50 = .ok (.ireturn, 1) := by decide +kernel
theorem dX6_sheet_51 : decode cX6_sheet 51 = .ok (.iload_n 2, 1) := by decide +kernel
theorem dX6_sheet_52 : decode cX6_sheet 52 = .ok (.ifCond .le 16, 3) := by decide +kernel
theorem dX6_sheet_55 : decode cX6_sheet 55 = .ok (.iload_n 3, 1) := by decide +kernel
theorem dX6_sheet_56 : decode cX6_sheet 56 = .ok (.bipush 24, 2) := by decide +kernel
theorem dX6_sheet_58 : decode cX6_sheet 58 = .ok (.if_icmp .le 10, 3) := by decide +kernel
theorem dX6_sheet_61 : decode cX6_sheet 61 = .ok (.aload_n 0, 1) := by decide +kernel
theorem dX6_sheet_62 : decode cX6_sheet 62 = .ok (.ldc 75, 2) := by decide +kernel
theorem dX6_sheet_64 : decode cX6_sheet 64 = .ok (.invokevirtual 76, 3) := by decide +kernel
theorem dX6_sheet_67 : decode cX6_sheet 67 = .ok (.ireturn, 1) := by decide +kernel
theorem dX6_sheet_68 : decode cX6_sheet 68 = .ok (.aload_n 0, 1) := by decide +kernel
theorem dX6_sheet_69 : decode cX6_sheet 69 = .ok (.getfield 19, 3) := by decide +kernel
theorem dX6_sheet_72 : decode cX6_sheet 72 = .ok (.iload_n 1, 1) := by decide +kernel
theorem dX6_sheet_73 : decode cX6_sheet 73 = .ok (.iload_n 2, 1) := by decide +kernel
theorem dX6_sheet_74 : decode cX6_sheet 74 = .ok (.iastore, 1) := by decide +kernel
theorem dX6_sheet_75 : decode cX6_sheet 75 = .ok (.aload_n 0, 1) := by decide +kernel
theorem dX6_sheet_76 : decode cX6_sheet 76 = .ok (.getfield 22, 3) := by decide +kernel
theorem dX6_sheet_79 : decode cX6_sheet 79 = .ok (.iload_n 1, 1) := by decide +kernel
theorem dX6_sheet_80 : decode cX6_sheet 80 = .ok (.iload_n 2, 1) := by decide +kernel
theorem dX6_sheet_81 : decode cX6_sheet 81 = .ok (.ifCond .ne 7, 3) := by decide +kernel
theorem dX6_sheet_84 : decode cX6_sheet 84 = .ok (.iconst 0, 1) := by decide +kernel
theorem dX6_sheet_85 : decode cX6_sheet 85 = .ok (.goto 4, 3) := by decide +kernel
theorem dX6_sheet_88 : decode cX6_sheet 88 = .ok (.iload_n 3, 1) := by decide +kernel
theorem dX6_sheet_89 : decode cX6_sheet 89 = .ok (.iastore, 1) := by decide +kernel
theorem dX6_sheet_90 : decode cX6_sheet 90 = .ok (.iconst 0, 1) := by decide +kernel
theorem dX6_sheet_91 : decode cX6_sheet 91 = .ok (.istore 4, 2) := by decide +kernel
theorem dX6_sheet_93 : decode cX6_sheet 93 = .ok (.iload 4, 2) := by decide +kernel
theorem dX6_sheet_95 : decode cX6_sheet 95 = .ok (.bipush 24, 2) := by decide +kernel
theorem dX6_sheet_97 : decode cX6_sheet 97 = .ok (.if_icmp .ge 22, 3) := by decide +kernel
theorem dX6_sheet_100 : decode cX6_sheet 100 = .ok (.aload_n 0, 1) := by decide +kernel
theorem dX6_sheet_101 : decode cX6_sheet 101 = .ok (.getfield 25, 3) := by decide +kernel
theorem dX6_sheet_104 : decode cX6_sheet 104 = .ok (.bipush 24, 2) := by decide +kernel
theorem dX6_sheet_106 : decode cX6_sheet 106 = .ok (.iload_n 1, 1) := by decide +kernel
theorem dX6_sheet_107 : decode cX6_sheet 107 = .ok (.imul, 1) := by decide +kernel
theorem dX6_sheet_108 : decode cX6_sheet 108 = .ok (.iload 4, 2) := by decide +kernel
theorem dX6_sheet_110 : decode cX6_sheet 110 = .ok (.iadd, 1) := by decide +kernel
theorem dX6_sheet_111 : decode cX6_sheet 111 = .ok (.iconst 0, 1) := by decide +kernel
theorem dX6_sheet_112 : decode cX6_sheet 112 = .ok (.iastore, 1) := by decide +kernel
theorem dX6_sheet_113 : decode cX6_sheet 113 = .ok (.iinc 4 1, 3) := by decide +kernel
theorem dX6_sheet_116 : decode cX6_sheet 116 = .ok (.goto (-23), 3) := by decide +kernel
theorem dX6_sheet_119 : decode cX6_sheet 119 = .ok (.iconst 1, 1) := by decide +kernel
theorem dX6_sheet_120 : decode cX6_sheet 120 = .ok (.ireturn, 1) := by decide +kernel
theorem dX6_notThere_0 : decode cX6_notThere 0 = .ok (.iload_n 1, 1) := by decide +kernel
theorem dX6_notThere_1 : decode cX6_notThere 1 = .ok (.invokestatic 200, 3) := by decide +kernel
theorem dX6_notThere_4 : decode cX6_notThere 4 = .ok (.ifCond .ne 8, 3) := by decide +kernel
theorem dX6_notThere_7 : decode cX6_notThere 7 = .ok (.ldc 75, 2) := by decide +kernel
theorem dX6_notThere_9 : decode cX6_notThere 9 = .ok (.goto 18, 3) := by decide +kernel
theorem dX6_notThere_12 : decode cX6_notThere 12 = .ok (.aload_n 0, 1) := by decide +kernel
theorem dX6_notThere_13 : decode cX6_notThere 13 = .ok (.getfield 19, 3) := by decide +kernel
theorem dX6_notThere_16 : decode cX6_notThere 16 = .ok (.iload_n 1, 1) := by decide +kernel
theorem dX6_notThere_17 : decode cX6_notThere 17 = .ok (.iaload, 1) := by decide +kernel
theorem dX6_notThere_18 : decode cX6_notThere 18 = .ok (.ifCond .ne 8, 3) := by decide +kernel
theorem dX6_notThere_21 : decode cX6_notThere 21 = .ok (.ldc 188, 2) := by decide +kernel
theorem dX6_notThere_23 : decode cX6_notThere 23 = .ok (.goto 4, 3) := by decide +kernel
theorem dX6_notThere_26 : decode cX6_notThere 26 = .ok (.iconst 0, 1) := by decide +kernel
theorem dX6_notThere_27 : decode cX6_notThere 27 = .ok (.ireturn, 1) := by decide +kernel
theorem dX6_put_0 : decode cX6_put 0 = .ok (.aload_n 0, 1) := by decide +kernel
theorem dX6_put_1 : decode cX6_put 1 = .ok (.iload_n 1, 1) := by decide +kernel
theorem dX6_put_2 : decode cX6_put 2 = .ok (.invokevirtual 246, 3) := by decide +kernel
theorem dX6_put_5 : decode cX6_put 5 = .ok (.istore 4, 2) := by decide +kernel
theorem dX6_put_7 : decode cX6_put 7 = .ok (.iload 4, 2) := by decide +kernel
theorem dX6_put_9 : decode cX6_put 9 = .ok (.ifCond .ne 24, 3) := by decide +kernel
theorem dX6_put_12 : decode cX6_put 12 = .ok (.iload_n 2, 1) := by decide +kernel
theorem dX6_put_13 : decode cX6_put 13 = .ok (.iconst 0, 1) := by decide +kernel
theorem dX6_put_14 : decode cX6_put 14 = .ok (.aload_n 0, 1) := by decide +kernel
theorem dX6_put_15 : decode cX6_put 15 = .ok (.getfield 22, 3) := by decide +kernel
theorem dX6_put_18 : decode cX6_put 18 = .ok (.iload_n 1, 1) := by decide +kernel
theorem dX6_put_19 : decode cX6_put 19 = .ok (.iaload, 1) := by decide +kernel
theorem dX6_put_20 : decode cX6_put 20 = .ok (.iconst 1, 1) := by decide +kernel
theorem dX6_put_21 : decode cX6_put 21 = .ok (.isub, 1) := by decide +kernel
theorem dX6_put_22 : decode cX6_put 22 = .ok (.invokestatic 53, 3) := by decide +kernel
theorem dX6_put_25 : decode cX6_put 25 = .ok (.ifCond .ne 8, 3) := by decide +kernel
theorem dX6_put_28 : decode cX6_put 28 = .ok (.ldc 75, 2) := by decide +kernel
theorem dX6_put_30 : decode cX6_put 30 = .ok (.goto 5, 3) := by decide +kernel
theorem dX6_put_33 : decode cX6_put 33 = .ok (.iload 4, 2) := by decide +kernel
theorem dX6_put_35 : decode cX6_put 35 = .ok (.istore 4, 2) := by decide +kernel
theorem dX6_put_37 : decode cX6_put 37 = .ok (.iload 4, 2) := by decide +kernel
theorem dX6_put_39 : decode cX6_put 39 = .ok (.ifCond .eq 10, 3) := by decide +kernel
theorem dX6_put_42 : decode cX6_put 42 = .ok (.aload_n 0, 1) := by decide +kernel
theorem dX6_put_43 : decode cX6_put 43 = .ok (.iload 4, 2) := by decide +kernel
theorem dX6_put_45 : decode cX6_put 45 = .ok (.invokevirtual 76, 3) := by decide +kernel
theorem dX6_put_48 : decode cX6_put 48 = .ok (.ireturn, 1) := by decide +kernel
theorem dX6_put_49 : decode cX6_put 49 = .ok (.aload_n 0, 1) := by decide +kernel
theorem dX6_put_50 : decode cX6_put 50 = .ok (.getfield 25, 3) := by decide +kernel
theorem dX6_put_53 : decode cX6_put 53 = .ok (.bipush 24, 2) := by decide +kernel
theorem dX6_put_55 : decode cX6_put 55 = .ok (.iload_n 1, 1) := by decide +kernel
theorem dX6_put_56 : decode cX6_put 56 = .ok (.imul, 1) := by decide +kernel
theorem dX6_put_57 : decode cX6_put 57 = .ok (.iload_n 2, 1) := by decide +kernel
theorem dX6_put_58 : decode cX6_put 58 = .ok (.iadd, 1) := by decide +kernel
theorem dX6_put_59 : decode cX6_put 59 = .ok (.aload_n 0, 1) := by decide +kernel
theorem dX6_put_60 : decode cX6_put 60 = .ok (.getfield 19, 3) := by decide +kernel
theorem dX6_put_63 : decode cX6_put 63 = .ok (.iload_n 1, 1) := by decide +kernel
theorem dX6_put_64 : decode cX6_put 64 = .ok (.iaload, 1) := by decide +kernel
theorem dX6_put_65 : decode cX6_put 65 = .ok (.bipush 8, 2) := by decide +kernel
theorem dX6_put_67 : decode cX6_put 67 = .ok (.if_icmp .ne 8, 3) := by decide +kernel
theorem dX6_put_70 : decode cX6_put 70 = .ok (.iload_n 3, 1) := by decide +kernel
theorem dX6_put_71 : decode cX6_put 71 = .ok (.i2b, 1) := by decide +kernel
theorem dX6_put_72 : decode cX6_put 72 = .ok (.goto 20, 3) := by decide +kernel
theorem dX6_put_75 : decode cX6_put 75 = .ok (.aload_n 0, 1) := by decide +kernel
theorem dX6_put_76 : decode cX6_put 76 = .ok (.getfield 19, 3) := by decide +kernel
theorem dX6_put_79 : decode cX6_put 79 = .ok (.iload_n 1, 1) := by decide +kernel
theorem dX6_put_80 : decode cX6_put 80 = .ok (.iaload, 1) := by decide +kernel
theorem dX6_put_81 : decode cX6_put 81 = .ok (.bipush 16, 2) := by decide +kernel
theorem dX6_put_83 : decode cX6_put 83 = .ok (.if_icmp .ne 8, 3) := by decide +kernel
theorem dX6_put_86 : decode cX6_put 86 = .ok (.iload_n 3, 1) := by decide +kernel
theorem dX6_put_87 : decode cX6_put 87 = .ok (.i2s, 1) := by decide +kernel
theorem dX6_put_88 : decode cX6_put 88 = .ok (.goto 4, 3) := by decide +kernel
theorem dX6_put_91 : decode cX6_put 91 = .ok (.iload_n 3, 1) := by decide +kernel
theorem dX6_put_92 : decode cX6_put 92 = .ok (.iastore, 1) := by decide +kernel
theorem dX6_put_93 : decode cX6_put 93 = .ok (.iconst 1, 1) := by decide +kernel
theorem dX6_put_94 : decode cX6_put 94 = .ok (.ireturn, 1) := by decide +kernel
theorem dX6_notMoved_0 : decode cX6_notMoved 0 = .ok (.iload_n 1, 1) := by decide +kernel
theorem dX6_notMoved_1 : decode cX6_notMoved 1 = .ok (.invokestatic 200, 3) := by decide +kernel
theorem dX6_notMoved_4 : decode cX6_notMoved 4 = .ok (.ifCond .eq 10, 3) := by decide +kernel
theorem dX6_notMoved_7 : decode cX6_notMoved 7 = .ok (.iload_n 3, 1) := by decide +kernel
theorem dX6_notMoved_8 : decode cX6_notMoved 8 = .ok (.invokestatic 200, 3) := by decide +kernel
theorem dX6_notMoved_11 : decode cX6_notMoved 11 = .ok (.ifCond .ne 6, 3) := by decide +kernel
theorem dX6_notMoved_14 : decode cX6_notMoved 14 = .ok (.ldc 75, 2) := by decide +kernel
theorem dX6_notMoved_16 : decode cX6_notMoved 16 = .ok (.ireturn, 1) := by decide +kernel
theorem dX6_notMoved_17 : decode cX6_notMoved 17 = .ok (.aload_n 0, 1) := by decide +kernel
theorem dX6_notMoved_18 : decode cX6_notMoved 18 = .ok (.getfield 19, 3) := by decide +kernel
theorem dX6_notMoved_21 : decode cX6_notMoved 21 = .ok (.iload_n 1, 1) := by decide +kernel
theorem dX6_notMoved_22 : decode cX6_notMoved 22 = .ok (.iaload, 1) := by decide +kernel
theorem dX6_notMoved_23 : decode cX6_notMoved 23 = .ok (.ifCond .eq 12, 3) := by decide +kernel
theorem dX6_notMoved_26 : decode cX6_notMoved 26 = .ok (.aload_n 0, 1) := by decide +kernel
theorem dX6_notMoved_27 : decode cX6_notMoved 27 = .ok (.getfield 19, 3) := by decide +kernel
theorem dX6_notMoved_30 : decode cX6_notMoved 30 = .ok (.iload_n 3, 1) := by decide +kernel
theorem dX6_notMoved_31 : decode cX6_notMoved 31 = .ok (.iaload, 1) := by decide +kernel
theorem dX6_notMoved_32 : decode cX6_notMoved 32 = .ok (.ifCond .ne 6, 3) := by decide +kernel
theorem dX6_notMoved_35 : decode cX6_notMoved 35 = .ok (.ldc 188, 2) := by decide +kernel
theorem dX6_notMoved_37 : decode cX6_notMoved 37 = .ok (.ireturn, 1) := by decide +kernel
theorem dX6_notMoved_38 : decode cX6_notMoved 38 = .ok (.aload_n 0, 1) := by decide +kernel
theorem dX6_notMoved_39 : decode cX6_notMoved 39 = .ok (.getfield 19, 3) := by decide +kernel
theorem dX6_notMoved_42 : decode cX6_notMoved 42 = .ok (.iload_n 1, 1) := by decide +kernel
theorem dX6_notMoved_43 : decode cX6_notMoved 43 = .ok (.iaload, 1) := by decide +kernel
theorem dX6_notMoved_44 : decode cX6_notMoved 44 = .ok (.aload_n 0, 1) := by decide +kernel
theorem dX6_notMoved_45 : decode cX6_notMoved 45 = .ok (.getfield 19, 3) := by decide +kernel
theorem dX6_notMoved_48 : decode cX6_notMoved 48 = .ok (.iload_n 3, 1) := by decide +kernel
theorem dX6_notMoved_49 : decode cX6_notMoved 49 = .ok (.iaload, 1) := by decide +kernel
theorem dX6_notMoved_50 : decode cX6_notMoved 50 = .ok (.if_icmp .eq 6, 3) := by decide +kernel
theorem dX6_notMoved_53 : decode cX6_notMoved 53 = .ok (.ldc 87, 2) := by decide +kernel
theorem dX6_notMoved_55 : decode cX6_notMoved 55 = .ok (.ireturn, 1) := by decide +kernel
theorem dX6_notMoved_56 : decode cX6_notMoved 56 = .ok (.iload 5, 2) := by decide +kernel
theorem dX6_notMoved_58 : decode cX6_notMoved 58 = .ok (.ifCond .lt 43, 3) := by decide +kernel
theorem dX6_notMoved_61 : decode cX6_notMoved 61 = .ok (.iload_n 2, 1) := by decide +kernel
theorem dX6_notMoved_62 : decode cX6_notMoved 62 = .ok (.ifCond .lt 39, 3) := by decide +kernel
theorem dX6_notMoved_65 : decode cX6_notMoved 65 = .ok (.iload 4, 2) := by decide +kernel
theorem dX6_notMoved_67 : decode cX6_notMoved 67 = .ok (.ifCond .lt 34, 3) := by decide +kernel
theorem dX6_notMoved_70 : decode cX6_notMoved 70 = .ok (.iload 5, 2) := by decide +kernel
theorem dX6_notMoved_72 : decode cX6_notMoved 72 = .ok (.aload_n 0, 1) := by decide +kernel
theorem dX6_notMoved_73 : decode cX6_notMoved 73 = .ok (.getfield 22, 3) := by decide +kernel
theorem dX6_notMoved_76 : decode cX6_notMoved 76 = .ok (.iload_n 1, 1) := by decide +kernel
theorem dX6_notMoved_77 : decode cX6_notMoved 77 = .ok (.iaload, 1) := by decide +kernel
theorem dX6_notMoved_78 : decode cX6_notMoved 78 = .ok (.iload_n 2, 1) := by decide +kernel
theorem dX6_notMoved_79 : decode cX6_notMoved 79 = .ok (.isub, 1) := by decide +kernel
theorem dX6_notMoved_80 : decode cX6_notMoved 80 = .ok (.if_icmp .gt 21, 3) := by decide +kernel
theorem dX6_notMoved_83 : decode cX6_notMoved 83 = .ok (.iload 5, 2) := by decide +kernel
theorem dX6_notMoved_85 : decode cX6_notMoved 85 = .ok (.aload_n 0, 1) := by decide +kernel
theorem dX6_notMoved_86 : decode cX6_notMoved 86 = .ok (.getfield 22, 3) := by decide +kernel
theorem dX6_notMoved_89 : decode cX6_notMoved 89 = .ok (.iload_n 3, 1) := by decide +kernel
theorem dX6_notMoved_90 : decode cX6_notMoved 90 = .ok (.iaload, 1) := by decide +kernel
theorem dX6_notMoved_91 : decode cX6_notMoved 91 = .ok (.iload 4, 2) := by decide +kernel
theorem dX6_notMoved_93 : decode cX6_notMoved 93 = .ok (.isub, 1) := by decide +kernel
theorem dX6_notMoved_94 : decode cX6_notMoved 94 = .ok (.if_icmp .gt 7, 3) := by decide +kernel
theorem dX6_notMoved_97 : decode cX6_notMoved 97 = .ok (.iconst 1, 1) := by decide +kernel
theorem dX6_notMoved_98 : decode cX6_notMoved 98 = .ok (.goto 4, 3) := by decide +kernel
theorem dX6_notMoved_101 : decode cX6_notMoved 101 = .ok (.iconst 0, 1) := by decide +kernel
theorem dX6_notMoved_102 : decode cX6_notMoved 102 = .ok (.istore 6, 2) := by decide +kernel
theorem dX6_notMoved_104 : decode cX6_notMoved 104 = .ok (.iload 6, 2) := by decide +kernel
theorem dX6_notMoved_106 : decode cX6_notMoved 106 = .ok (.ifCond .eq 7, 3) := by decide +kernel
theorem dX6_notMoved_109 : decode cX6_notMoved 109 = .ok (.iconst 0, 1) := by decide +kernel
theorem dX6_notMoved_110 : decode cX6_notMoved 110 = .ok (.goto 5, 3) := by decide +kernel
theorem dX6_notMoved_113 : decode cX6_notMoved 113 = .ok (.ldc 75, 2) := by decide +kernel
theorem dX6_notMoved_115 : decode cX6_notMoved 115 = .ok (.ireturn, 1) := by decide +kernel
theorem dX6_move_0 : decode cX6_move 0 = .ok (.aload_n 0, 1) := by decide +kernel
theorem dX6_move_1 : decode cX6_move 1 = .ok (.iload_n 1, 1) := by decide +kernel
theorem dX6_move_2 : decode cX6_move 2 = .ok (.iload_n 2, 1) := by decide +kernel
theorem dX6_move_3 : decode cX6_move 3 = .ok (.iload_n 3, 1) := by decide +kernel
theorem dX6_move_4 : decode cX6_move 4 = .ok (.iload 4, 2) := by decide +kernel
theorem dX6_move_6 : decode cX6_move 6 = .ok (.iload 5, 2) := by decide +kernel
theorem dX6_move_8 : decode cX6_move 8 = .ok (.invokevirtual 249, 3) := by decide +kernel
theorem dX6_move_11 : decode cX6_move 11 = .ok (.istore 6, 2) := by decide +kernel
theorem dX6_move_13 : decode cX6_move 13 = .ok (.iload 6, 2) := by decide +kernel
theorem dX6_move_15 : decode cX6_move 15 = .ok (.ifCond .eq 10, 3) := by decide +kernel
theorem dX6_move_18 : decode cX6_move 18 = .ok (.aload_n 0, 1) := by decide +kernel
theorem dX6_move_19 : decode cX6_move 19 = .ok (.iload 6, 2) := by decide +kernel
theorem dX6_move_21 : decode cX6_move 21 = .ok (.invokevirtual 76, 3) := by decide +kernel
theorem dX6_move_24 : decode cX6_move 24 = .ok (.ireturn, 1) := by decide +kernel
theorem dX6_move_25 : decode cX6_move 25 = .ok (.iconst 0, 1) := by decide +kernel
theorem dX6_move_26 : decode cX6_move 26 = .ok (.istore 7, 2) := by decide +kernel
theorem dX6_move_28 : decode cX6_move 28 = .ok (.iload 7, 2) := by decide +kernel
theorem dX6_move_30 : decode cX6_move 30 = .ok (.iload 5, 2) := by decide +kernel
theorem dX6_move_32 : decode cX6_move 32 = .ok (.if_icmp .ge 58, 3) := by decide +kernel
theorem dX6_move_35 : decode cX6_move 35 = .ok (.iload_n 2, 1) := by decide +kernel
theorem dX6_move_36 : decode cX6_move 36 = .ok (.iload 4, 2) := by decide +kernel
theorem dX6_move_38 : decode cX6_move 38 = .ok (.if_icmp .ge 13, 3) := by decide +kernel
theorem dX6_move_41 : decode cX6_move 41 = .ok (.iload 5, 2) := by decide +kernel
theorem dX6_move_43 : decode cX6_move 43 = .ok (.iconst 1, 1) := by decide +kernel
theorem dX6_move_44 : decode cX6_move 44 = .ok (.isub, 1) := by decide +kernel
theorem dX6_move_45 : decode cX6_move 45 = .ok (.iload 7, 2) := by decide +kernel
theorem dX6_move_47 : decode cX6_move 47 = .ok (.isub, 1) := by decide +kernel
theorem dX6_move_48 : decode cX6_move 48 = .ok (.goto 5, 3) := by decide +kernel
theorem dX6_move_51 : decode cX6_move 51 = .ok (.iload 7, 2) := by decide +kernel
theorem dX6_move_53 : decode cX6_move 53 = .ok (.istore 8, 2) := by decide +kernel
theorem dX6_move_55 : decode cX6_move 55 = .ok (.aload_n 0, 1) := by decide +kernel
theorem dX6_move_56 : decode cX6_move 56 = .ok (.getfield 25, 3) := by decide +kernel
theorem dX6_move_59 : decode cX6_move 59 = .ok (.bipush 24, 2) := by decide +kernel
theorem dX6_move_61 : decode cX6_move 61 = .ok (.iload_n 3, 1) := by decide +kernel
theorem dX6_move_62 : decode cX6_move 62 = .ok (.imul, 1) := by decide +kernel
theorem dX6_move_63 : decode cX6_move 63 = .ok (.iload 4, 2) := by decide +kernel
theorem dX6_move_65 : decode cX6_move 65 = .ok (.iadd, 1) := by decide +kernel
theorem dX6_move_66 : decode cX6_move 66 = .ok (.iload 8, 2) := by decide +kernel
theorem dX6_move_68 : decode cX6_move 68 = .ok (.iadd, 1) := by decide +kernel
theorem dX6_move_69 : decode cX6_move 69 = .ok (.aload_n 0, 1) := by decide +kernel
theorem dX6_move_70 : decode cX6_move 70 = .ok (.getfield 25, 3) := by decide +kernel
theorem dX6_move_73 : decode cX6_move 73 = .ok (.bipush 24, 2) := by decide +kernel
theorem dX6_move_75 : decode cX6_move 75 = .ok (.iload_n 1, 1) := by decide +kernel
theorem dX6_move_76 : decode cX6_move 76 = .ok (.imul, 1) := by decide +kernel
theorem dX6_move_77 : decode cX6_move 77 = .ok (.iload_n 2, 1) := by decide +kernel
theorem dX6_move_78 : decode cX6_move 78 = .ok (.iadd, 1) := by decide +kernel
theorem dX6_move_79 : decode cX6_move 79 = .ok (.iload 8, 2) := by decide +kernel
theorem dX6_move_81 : decode cX6_move 81 = .ok (.iadd, 1) := by decide +kernel
theorem dX6_move_82 : decode cX6_move 82 = .ok (.iaload, 1) := by decide +kernel
theorem dX6_move_83 : decode cX6_move 83 = .ok (.iastore, 1) := by decide +kernel
theorem dX6_move_84 : decode cX6_move 84 = .ok (.iinc 7 1, 3) := by decide +kernel
theorem dX6_move_87 : decode cX6_move 87 = .ok (.goto (-59), 3) := by decide +kernel
theorem dX6_move_90 : decode cX6_move 90 = .ok (.iload 5, 2) := by decide +kernel
theorem dX6_move_92 : decode cX6_move 92 = .ok (.ireturn, 1) := by decide +kernel
theorem dX6_talks_0 : decode cX6_talks 0 = .ok (.aload_n 0, 1) := by decide +kernel
theorem dX6_talks_1 : decode cX6_talks 1 = .ok (.iload_n 1, 1) := by decide +kernel
theorem dX6_talks_2 : decode cX6_talks 2 = .ok (.invokevirtual 246, 3) := by decide +kernel
theorem dX6_talks_5 : decode cX6_talks 5 = .ok (.istore_n 2, 1) := by decide +kernel
theorem dX6_talks_6 : decode cX6_talks 6 = .ok (.iload_n 2, 1) := by decide +kernel
theorem dX6_talks_7 : decode cX6_talks 7 = .ok (.ifCond .eq 9, 3) := by decide +kernel
theorem dX6_talks_10 : decode cX6_talks 10 = .ok (.aload_n 0, 1) := by decide +kernel
theorem dX6_talks_11 : decode cX6_talks 11 = .ok (.iload_n 2, 1) := by decide +kernel
theorem dX6_talks_12 : decode cX6_talks 12 = .ok (.invokevirtual 76, 3) := by decide +kernel
theorem dX6_talks_15 : decode cX6_talks 15 = .ok (.ireturn, 1) := by decide +kernel
theorem dX6_talks_16 : decode cX6_talks 16 = .ok (.iconst 0, 1) := by decide +kernel
theorem dX6_talks_17 : decode cX6_talks 17 = .ok (.istore_n 3, 1) := by decide +kernel
theorem dX6_talks_18 : decode cX6_talks 18 = .ok (.iload_n 3, 1) := by decide +kernel
theorem dX6_talks_19 : decode cX6_talks 19 = .ok (.aload_n 0, 1) := by decide +kernel
theorem dX6_talks_20 : decode cX6_talks 20 = .ok (.getfield 22, 3) := by decide +kernel
theorem dX6_talks_23 : decode cX6_talks 23 = .ok (.iload_n 1, 1) := by decide +kernel
theorem dX6_talks_24 : decode cX6_talks 24 = .ok (.iaload, 1) := by decide +kernel
theorem dX6_talks_25 : decode cX6_talks 25 = .ok (.if_icmp .ge 63, 3) := by decide +kernel
theorem dX6_talks_28 : decode cX6_talks 28 = .ok (.iload_n 3, 1) := by decide +kernel
theorem dX6_talks_29 : decode cX6_talks 29 = .ok (.aload_n 0, 1) := by decide +kernel
theorem dX6_talks_30 : decode cX6_talks 30 = .ok (.getfield 9, 3) := by decide +kernel
theorem dX6_talks_33 : decode cX6_talks 33 = .ok (.iconst 2, 1) := by decide +kernel
theorem dX6_talks_34 : decode cX6_talks 34 = .ok (.iaload, 1) := by decide +kernel
theorem dX6_talks_35 : decode cX6_talks 35 = .ok (.if_icmp .ge 53, 3) := by decide +kernel
theorem dX6_talks_38 : decode cX6_talks 38 = .ok (.aload_n 0, 1) := by decide +kernel
theorem dX6_talks_39 : decode cX6_talks 39 = .ok (.getfield 25, 3) := by decide +kernel
theorem dX6_talks_42 : decode cX6_talks 42 = .ok (.bipush 24, 2) := by decide +kernel
theorem dX6_talks_44 : decode cX6_talks 44 = .ok (.iload_n 1, 1) := by decide +kernel
theorem dX6_talks_45 : decode cX6_talks 45 = .ok (.imul, 1) := by decide +kernel
theorem dX6_talks_46 : decode cX6_talks 46 = .ok (.iload_n 3, 1) := by decide +kernel
theorem dX6_talks_47 : decode cX6_talks 47 = .ok (.iadd, 1) := by decide +kernel
theorem dX6_talks_48 : decode cX6_talks 48 = .ok (.iaload, 1) := by decide +kernel
theorem dX6_talks_49 : decode cX6_talks 49 = .ok (.iconst 0, 1) := by decide +kernel
theorem dX6_talks_50 : decode cX6_talks 50 = .ok (.ldc 189, 2) := by decide +kernel
theorem dX6_talks_52 : decode cX6_talks 52 = .ok (.invokestatic 53, 3) := by decide +kernel
theorem dX6_talks_55 : decode cX6_talks 55 = .ok (.ifCond .eq 33, 3) := by decide +kernel
theorem dX6_talks_58 : decode cX6_talks 58 = .ok (.aload_n 0, 1) := by decide +kernel
theorem dX6_talks_59 : decode cX6_talks 59 = .ok (.getfield 9, 3) := by decide +kernel
theorem dX6_talks_62 : decode cX6_talks 62 = .ok (.bipush 7, 2) := by decide +kernel
theorem dX6_talks_64 : decode cX6_talks 64 = .ok (.iconst 4, 1) := by decide +kernel
theorem dX6_talks_65 : decode cX6_talks 65 = .ok (.iload_n 3, 1) := by decide +kernel
theorem dX6_talks_66 : decode cX6_talks 66 = .ok (.imul, 1) := by decide +kernel
theorem dX6_talks_67 : decode cX6_talks 67 = .ok (.iadd, 1) := by decide +kernel
theorem dX6_talks_68 : decode cX6_talks 68 = .ok (.iconst 3, 1) := by decide +kernel
theorem dX6_talks_69 : decode cX6_talks 69 = .ok (.iadd, 1) := by decide +kernel
theorem dX6_talks_70 : decode cX6_talks 70 = .ok (.aload_n 0, 1) := by decide +kernel
theorem dX6_talks_71 : decode cX6_talks 71 = .ok (.getfield 25, 3) := by decide +kernel
theorem dX6_talks_74 : decode cX6_talks 74 = .ok (.bipush 24, 2) := by decide +kernel
theorem dX6_talks_76 : decode cX6_talks 76 = .ok (.iload_n 1, 1) := by decide +kernel
theorem dX6_talks_77 : decode cX6_talks 77 = .ok (.imul, 1) := by decide +kernel
theorem dX6_talks_78 : decode cX6_talks 78 = .ok (.iload_n 3, 1) := by decide +kernel
theorem dX6_talks_79 : decode cX6_talks 79 = .ok (.iadd, 1) := by decide +kernel
theorem dX6_talks_80 : decode cX6_talks 80 = .ok (.iaload, 1) := by decide +kernel
theorem dX6_talks_81 : decode cX6_talks 81 = .ok (.iastore, 1) := by decide +kernel
theorem dX6_talks_82 : decode cX6_talks 82 = .ok (.iinc 3 1, 3) := by decide +kernel
theorem dX6_talks_85 : decode cX6_talks 85 = .ok (.goto (-67), 3) := by decide +kernel
theorem dX6_talks_88 : decode cX6_talks 88 = .ok (.iload_n 3, 1) := by decide +kernel
theorem dX6_talks_89 : decode cX6_talks 89 = .ok (.ireturn, 1) := by decide +kernel
theorem dX6_judge_0 : decode cX6_judge 0 = .ok (.aload_n 0, 1) := by decide +kernel
theorem dX6_judge_1 : decode cX6_judge 1 = .ok (.iload_n 1, 1) := by decide +kernel
theorem dX6_judge_2 : decode cX6_judge 2 = .ok (.invokevirtual 246, 3) := by decide +kernel
theorem dX6_judge_5 : decode cX6_judge 5 = .ok (.istore_n 2, 1) := by decide +kernel
theorem dX6_judge_6 : decode cX6_judge 6 = .ok (.iload_n 2, 1) := by decide +kernel
theorem dX6_judge_7 : decode cX6_judge 7 = .ok (.ifCond .eq 9, 3) := by decide +kernel
theorem dX6_judge_10 : decode cX6_judge 10 = .ok (.aload_n 0, 1) := by decide +kernel
theorem dX6_judge_11 : decode cX6_judge 11 = .ok (.iload_n 2, 1) := by decide +kernel
theorem dX6_judge_12 : decode cX6_judge 12 = .ok (.invokevirtual 76, 3) := by decide +kernel
theorem dX6_judge_15 : decode cX6_judge 15 = .ok (.ireturn, 1) := by decide +kernel
theorem dX6_judge_16 : decode cX6_judge 16 = .ok (.iconst 0, 1) := by decide +kernel
theorem dX6_judge_17 : decode cX6_judge 17 = .ok (.istore_n 3, 1) := by decide +kernel
theorem dX6_judge_18 : decode cX6_judge 18 = .ok (.iload_n 3, 1) := by decide +kernel
theorem dX6_judge_19 : decode cX6_judge 19 = .ok (.aload_n 0, 1) := by decide +kernel
theorem dX6_judge_20 : decode cX6_judge 20 = .ok (.getfield 22, 3) := by decide +kernel
theorem dX6_judge_23 : decode cX6_judge 23 = .ok (.iload_n 1, 1) := by decide +kernel
theorem dX6_judge_24 : decode cX6_judge 24 = .ok (.iaload, 1) := by decide +kernel
theorem dX6_judge_25 : decode cX6_judge 25 = .ok (.if_icmp .ge 38, 3) := by decide +kernel
theorem dX6_judge_28 : decode cX6_judge 28 = .ok (.iload_n 3, 1) := by decide +kernel
theorem dX6_judge_29 : decode cX6_judge 29 = .ok (.aload_n 0, 1) := by decide +kernel
theorem dX6_judge_30 : decode cX6_judge 30 = .ok (.getfield 9, 3) := by decide +kernel
theorem dX6_judge_33 : decode cX6_judge 33 = .ok (.iconst 3, 1) := by decide +kernel
theorem dX6_judge_34 : decode cX6_judge 34 = .ok (.iaload, 1) := by decide +kernel
theorem dX6_judge_35 : decode cX6_judge 35 = .ok (.if_icmp .ge 28, 3) := by decide +kernel
theorem dX6_judge_38 : decode cX6_judge 38 = .ok (.aload_n 0, 1) := by decide +kernel
theorem dX6_judge_39 : decode cX6_judge 39 = .ok (.getfield 25, 3) := by decide +kernel
theorem dX6_judge_42 : decode cX6_judge 42 = .ok (.bipush 24, 2) := by decide +kernel
theorem dX6_judge_44 : decode cX6_judge 44 = .ok (.iload_n 1, 1) := by decide +kernel
theorem dX6_judge_45 : decode cX6_judge 45 = .ok (.imul, 1) := by decide +kernel
theorem dX6_judge_46 : decode cX6_judge 46 = .ok (.iload_n 3, 1) := by decide +kernel
theorem dX6_judge_47 : decode cX6_judge 47 = .ok (.iadd, 1) := by decide +kernel
theorem dX6_judge_48 : decode cX6_judge 48 = .ok (.iaload, 1) := by decide +kernel
theorem dX6_judge_49 : decode cX6_judge 49 = .ok (.aload_n 0, 1) := by decide +kernel
theorem dX6_judge_50 : decode cX6_judge 50 = .ok (.iload_n 3, 1) := by decide +kernel
theorem dX6_judge_51 : decode cX6_judge 51 = .ok (.invokevirtual 102, 3) := by decide +kernel
theorem dX6_judge_54 : decode cX6_judge 54 = .ok (.if_icmp .ne 9, 3) := by decide +kernel
theorem dX6_judge_57 : decode cX6_judge 57 = .ok (.iinc 3 1, 3) := by decide +kernel
theorem dX6_judge_60 : decode cX6_judge 60 = .ok (.goto (-42), 3) := by decide +kernel
theorem dX6_judge_63 : decode cX6_judge 63 = .ok (.iload_n 3, 1) := by decide +kernel
theorem dX6_judge_64 : decode cX6_judge 64 = .ok (.ireturn, 1) := by decide +kernel
theorem dX6_image_0 : decode cX6_image 0 = .ok (.aload_n 0, 1) := by decide +kernel
theorem dX6_image_1 : decode cX6_image 1 = .ok (.getfield 9, 3) := by decide +kernel
theorem dX6_image_4 : decode cX6_image 4 = .ok (.aload_n 0, 1) := by decide +kernel
theorem dX6_image_5 : decode cX6_image 5 = .ok (.getfield 13, 3) := by decide +kernel
theorem dX6_image_8 : decode cX6_image 8 = .ok (.invokestatic 253, 3) := by decide +kernel
theorem dX6_image_11 : decode cX6_image 11 = .ok (.aload_n 0, 1) := by decide +kernel
theorem dX6_image_12 : decode cX6_image 12 = .ok (.dup, 1) := by decide +kernel
theorem dX6_image_13 : decode cX6_image 13 = .ok (.getfield 257, 3) := by decide +kernel
theorem dX6_image_16 : decode cX6_image 16 = .ok (.iconst 1, 1) := by decide +kernel
theorem dX6_image_17 : decode cX6_image 17 = .ok (.iadd, 1) := by decide +kernel
theorem dX6_image_18 : decode cX6_image 18 = .ok (.putfield 257, 3) := by decide +kernel
theorem dX6_image_21 : decode cX6_image 21 = .ok (.aload_n 0, 1) := by decide +kernel
theorem dX6_image_22 : decode cX6_image 22 = .ok (.getfield 257, 3) := by decide +kernel
theorem dX6_image_25 : decode cX6_image 25 = .ok (.ireturn, 1) := by decide +kernel
theorem dX6_restore_0 : decode cX6_restore 0 = .ok (.aload_n 0, 1) := by decide +kernel
theorem dX6_restore_1 : decode cX6_restore 1 = .ok (.getfield 257, 3) := by decide +kernel
theorem dX6_restore_4 : decode cX6_restore 4 = .ok (.ifCond .ne 10, 3) := by decide +kernel
theorem dX6_restore_7 : decode cX6_restore 7 = .ok (.aload_n 0, 1) := by decide +kernel
theorem dX6_restore_8 : decode cX6_restore 8 = .ok (.ldc 188, 2) := by decide +kernel
theorem dX6_restore_10 : decode cX6_restore 10 = .ok (.invokevirtual 76, 3) := by decide +kernel
theorem dX6_restore_13 : decode cX6_restore 13 = .ok (.ireturn, 1) := by decide +kernel
theorem dX6_restore_14 : decode cX6_restore 14 = .ok (.aload_n 0, 1) := by decide +kernel
theorem dX6_restore_15 : decode cX6_restore 15 = .ok (.getfield 13, 3) := by decide +kernel
theorem dX6_restore_18 : decode cX6_restore 18 = .ok (.aload_n 0, 1) := by decide +kernel
theorem dX6_restore_19 : decode cX6_restore 19 = .ok (.getfield 9, 3) := by decide +kernel
theorem dX6_restore_22 : decode cX6_restore 22 = .ok (.invokestatic 253, 3) := by decide +kernel
theorem dX6_restore_25 : decode cX6_restore 25 = .ok (.aload_n 0, 1) := by decide +kernel
theorem dX6_restore_26 : decode cX6_restore 26 = .ok (.getfield 9, 3) := by decide +kernel
theorem dX6_restore_29 : decode cX6_restore 29 = .ok (.iconst 0, 1) := by decide +kernel
theorem dX6_restore_30 : decode cX6_restore 30 = .ok (.iaload, 1) := by decide +kernel
theorem dX6_restore_31 : decode cX6_restore 31 = .ok (.ireturn, 1) := by decide +kernel
theorem dX6_tell_0 : decode cX6_tell 0 = .ok (.aload_n 0, 1) := by decide +kernel
theorem dX6_tell_1 : decode cX6_tell 1 = .ok (.getfield 9, 3) := by decide +kernel
theorem dX6_tell_4 : decode cX6_tell 4 = .ok (.bipush 6, 2) := by decide +kernel
theorem dX6_tell_6 : decode cX6_tell 6 = .ok (.iaload, 1) := by decide +kernel
theorem dX6_tell_7 : decode cX6_tell 7 = .ok (.bipush 24, 2) := by decide +kernel
theorem dX6_tell_9 : decode cX6_tell 9 = .ok (.if_icmp .ne 10, 3) := by decide +kernel
theorem dX6_tell_12 : decode cX6_tell 12 = .ok (.aload_n 0, 1) := by decide +kernel
theorem dX6_tell_13 : decode cX6_tell 13 = .ok (.ldc 80, 2) := by decide +kernel
theorem dX6_tell_15 : decode cX6_tell 15 = .ok (.invokevirtual 76, 3) := by decide +kernel
theorem dX6_tell_18 : decode cX6_tell 18 = .ok (.ireturn, 1) := by decide +kernel
theorem dX6_tell_19 : decode cX6_tell 19 = .ok (.aload_n 0, 1) := by decide +kernel
theorem dX6_tell_20 : decode cX6_tell 20 = .ok (.getfield 9, 3) := by decide +kernel
theorem dX6_tell_23 : decode cX6_tell 23 = .ok (.sipush 135, 3) := by decide +kernel
theorem dX6_tell_26 : decode cX6_tell 26 = .ok (.aload_n 0, 1) := by decide +kernel
theorem dX6_tell_27 : decode cX6_tell 27 = .ok (.getfield 9, 3) := by decide +kernel
theorem dX6_tell_30 : decode cX6_tell 30 = .ok (.bipush 6, 2) := by decide +kernel
theorem dX6_tell_32 : decode cX6_tell 32 = .ok (.iaload, 1) := by decide +kernel
theorem dX6_tell_33 : decode cX6_tell 33 = .ok (.iadd, 1) := by decide +kernel
theorem dX6_tell_34 : decode cX6_tell 34 = .ok (.iload_n 1, 1) := by decide +kernel
theorem dX6_tell_35 : decode cX6_tell 35 = .ok (.iastore, 1) := by decide +kernel
theorem dX6_tell_36 : decode cX6_tell 36 = .ok (.aload_n 0, 1) := by decide +kernel
theorem dX6_tell_37 : decode cX6_tell 37 = .ok (.getfield 9, 3) := by decide +kernel
theorem dX6_tell_40 : decode cX6_tell 40 = .ok (.bipush 6, 2) := by decide +kernel
theorem dX6_tell_42 : decode cX6_tell 42 = .ok (.dup2, 1) := by decide +kernel
theorem dX6_tell_43 : decode cX6_tell 43 = .ok (.iaload, 1) := by decide +kernel
theorem dX6_tell_44 : decode cX6_tell 44 = .ok (.iconst 1, 1) := by decide +kernel
theorem dX6_tell_45 : decode cX6_tell 45 = .ok (.iadd, 1) := by decide +kernel
theorem dX6_tell_46 : decode cX6_tell 46 = .ok (.iastore, 1) := by decide +kernel
theorem dX6_tell_47 : decode cX6_tell 47 = .ok (.aload_n 0, 1) := by decide +kernel
theorem dX6_tell_48 : decode cX6_tell 48 = .ok (.getfield 9, 3) := by decide +kernel
theorem dX6_tell_51 : decode cX6_tell 51 = .ok (.bipush 6, 2) := by decide +kernel
theorem dX6_tell_53 : decode cX6_tell 53 = .ok (.iaload, 1) := by decide +kernel
theorem dX6_tell_54 : decode cX6_tell 54 = .ok (.ireturn, 1) := by decide +kernel
theorem dX6_check_0 : decode cX6_check 0 = .ok (.aload_n 0, 1) := by decide +kernel
theorem dX6_check_1 : decode cX6_check 1 = .ok (.getfield 9, 3) := by decide +kernel
theorem dX6_check_4 : decode cX6_check 4 = .ok (.bipush 6, 2) := by decide +kernel
theorem dX6_check_6 : decode cX6_check 6 = .ok (.iaload, 1) := by decide +kernel
theorem dX6_check_7 : decode cX6_check 7 = .ok (.istore_n 1, 1) := by decide +kernel
theorem dX6_check_8 : decode cX6_check 8 = .ok (.aload_n 0, 1) := by decide +kernel
theorem dX6_check_9 : decode cX6_check 9 = .ok (.getfield 9, 3) := by decide +kernel
theorem dX6_check_12 : decode cX6_check 12 = .ok (.bipush 6, 2) := by decide +kernel
theorem dX6_check_14 : decode cX6_check 14 = .ok (.iconst 0, 1) := by decide +kernel
theorem dX6_check_15 : decode cX6_check 15 = .ok (.iastore, 1) := by decide +kernel
theorem dX6_check_16 : decode cX6_check 16 = .ok (.iconst 0, 1) := by decide +kernel
theorem dX6_check_17 : decode cX6_check 17 = .ok (.istore_n 2, 1) := by decide +kernel
theorem dX6_check_18 : decode cX6_check 18 = .ok (.iload_n 2, 1) := by decide +kernel
theorem dX6_check_19 : decode cX6_check 19 = .ok (.iload_n 1, 1) := by decide +kernel
theorem dX6_check_20 : decode cX6_check 20 = .ok (.if_icmp .ge 40, 3) := by decide +kernel
theorem dX6_check_23 : decode cX6_check 23 = .ok (.aload_n 0, 1) := by decide +kernel
theorem dX6_check_24 : decode cX6_check 24 = .ok (.iload_n 2, 1) := by decide +kernel
theorem dX6_check_25 : decode cX6_check 25 = .ok (.invokevirtual 81, 3) := by decide +kernel
theorem dX6_check_28 : decode cX6_check 28 = .ok (.ifCond .eq 22, 3) := by decide +kernel
theorem dX6_check_31 : decode cX6_check 31 = .ok (.aload_n 0, 1) := by decide +kernel
theorem dX6_check_32 : decode cX6_check 32 = .ok (.getfield 9, 3) := by decide +kernel
theorem dX6_check_35 : decode cX6_check 35 = .ok (.sipush 135, 3) := by decide +kernel
theorem dX6_check_38 : decode cX6_check 38 = .ok (.iload_n 2, 1) := by decide +kernel
theorem dX6_check_39 : decode cX6_check 39 = .ok (.iadd, 1) := by decide +kernel
theorem dX6_check_40 : decode cX6_check 40 = .ok (.iaload, 1) := by decide +kernel
theorem dX6_check_41 : decode cX6_check 41 = .ok (.aload_n 0, 1) := by decide +kernel
theorem dX6_check_42 : decode cX6_check 42 = .ok (.iload_n 2, 1) := by decide +kernel
theorem dX6_check_43 : decode cX6_check 43 = .ok (.iconst 3, 1) := by decide +kernel
theorem dX6_check_44 : decode cX6_check 44 = .ok (.invokevirtual 57, 3) := by decide +kernel
theorem dX6_check_47 : decode cX6_check 47 = .ok (.if_icmp .eq 7, 3) := by decide +kernel
theorem dX6_check_50 : decode cX6_check 50 = .ok (.iconst 1, 1) := by decide +kernel
theorem dX6_check_51 : decode cX6_check 51 = .ok (.iload_n 2, 1) := by decide +kernel
theorem dX6_check_52 : decode cX6_check 52 = .ok (.iadd, 1) := by decide +kernel
theorem dX6_check_53 : decode cX6_check 53 = .ok (.ireturn, 1) := by decide +kernel
theorem dX6_check_54 : decode cX6_check 54 = .ok (.iinc 2 1, 3) := by decide +kernel
theorem dX6_check_57 : decode cX6_check 57 = .ok (.goto (-39), 3) := by decide +kernel
theorem dX6_check_60 : decode cX6_check 60 = .ok (.iconst 0, 1) := by decide +kernel
theorem dX6_check_61 : decode cX6_check 61 = .ok (.ireturn, 1) := by decide +kernel
theorem dX6_count_0 : decode cX6_count 0 = .ok (.iload_n 1, 1) := by decide +kernel
theorem dX6_count_1 : decode cX6_count 1 = .ok (.tableswitch 111 0 8 #[51, 58, 65, 72, 79, 84, 91, 99, 104], 51) := by decide +kernel
theorem dX6_count_52 : decode cX6_count 52 = .ok (.aload_n 0, 1) := by decide +kernel
theorem dX6_count_53 : decode cX6_count 53 = .ok (.getfield 9, 3) := by decide +kernel
theorem dX6_count_56 : decode cX6_count 56 = .ok (.iconst 2, 1) := by decide +kernel
theorem dX6_count_57 : decode cX6_count 57 = .ok (.iaload, 1) := by decide +kernel
theorem dX6_count_58 : decode cX6_count 58 = .ok (.ireturn, 1) := by decide +kernel
theorem dX6_count_59 : decode cX6_count 59 = .ok (.aload_n 0, 1) := by decide +kernel
theorem dX6_count_60 : decode cX6_count 60 = .ok (.getfield 9, 3) := by decide +kernel
theorem dX6_count_63 : decode cX6_count 63 = .ok (.iconst 3, 1) := by decide +kernel
theorem dX6_count_64 : decode cX6_count 64 = .ok (.iaload, 1) := by decide +kernel
theorem dX6_count_65 : decode cX6_count 65 = .ok (.ireturn, 1) := by decide +kernel
theorem dX6_count_66 : decode cX6_count 66 = .ok (.aload_n 0, 1) := by decide +kernel
theorem dX6_count_67 : decode cX6_count 67 = .ok (.getfield 9, 3) := by decide +kernel
theorem dX6_count_70 : decode cX6_count 70 = .ok (.iconst 4, 1) := by decide +kernel
theorem dX6_count_71 : decode cX6_count 71 = .ok (.iaload, 1) := by decide +kernel
theorem dX6_count_72 : decode cX6_count 72 = .ok (.ireturn, 1) := by decide +kernel
theorem dX6_count_73 : decode cX6_count 73 = .ok (.aload_n 0, 1) := by decide +kernel
theorem dX6_count_74 : decode cX6_count 74 = .ok (.getfield 9, 3) := by decide +kernel
theorem dX6_count_77 : decode cX6_count 77 = .ok (.iconst 0, 1) := by decide +kernel
theorem dX6_count_78 : decode cX6_count 78 = .ok (.iaload, 1) := by decide +kernel
theorem dX6_count_79 : decode cX6_count 79 = .ok (.ireturn, 1) := by decide +kernel
theorem dX6_count_80 : decode cX6_count 80 = .ok (.aload_n 0, 1) := by decide +kernel
theorem dX6_count_81 : decode cX6_count 81 = .ok (.invokevirtual 176, 3) := by decide +kernel
theorem dX6_count_84 : decode cX6_count 84 = .ok (.ireturn, 1) := by decide +kernel
theorem dX6_count_85 : decode cX6_count 85 = .ok (.aload_n 0, 1) := by decide +kernel
theorem dX6_count_86 : decode cX6_count 86 = .ok (.getfield 9, 3) := by decide +kernel
theorem dX6_count_89 : decode cX6_count 89 = .ok (.iconst 5, 1) := by decide +kernel
theorem dX6_count_90 : decode cX6_count 90 = .ok (.iaload, 1) := by decide +kernel
theorem dX6_count_91 : decode cX6_count 91 = .ok (.ireturn, 1) := by decide +kernel
theorem dX6_count_92 : decode cX6_count 92 = .ok (.aload_n 0, 1) := by decide +kernel
theorem dX6_count_93 : decode cX6_count 93 = .ok (.getfield 9, 3) := by decide +kernel
theorem dX6_count_96 : decode cX6_count 96 = .ok (.bipush 6, 2) := by decide +kernel
theorem dX6_count_98 : decode cX6_count 98 = .ok (.iaload, 1) := by decide +kernel
theorem dX6_count_99 : decode cX6_count 99 = .ok (.ireturn, 1) := by decide +kernel
theorem dX6_count_100 : decode cX6_count 100 = .ok (.aload_n 0, 1) := by decide +kernel
theorem dX6_count_101 : decode cX6_count 101 = .ok (.getfield 206, 3) := by decide +kernel
theorem dX6_count_104 : decode cX6_count 104 = .ok (.ireturn, 1) := by decide +kernel
theorem dX6_count_105 : decode cX6_count 105 = .ok (.aload_n 0, 1) := by decide +kernel
theorem dX6_count_106 : decode cX6_count 106 = .ok (.getfield 9, 3) := by decide +kernel
theorem dX6_count_109 : decode cX6_count 109 = .ok (.iconst 1, 1) := by decide +kernel
theorem dX6_count_110 : decode cX6_count 110 = .ok (.iaload, 1) := by decide +kernel
theorem dX6_count_111 : decode cX6_count 111 = .ok (.ireturn, 1) := by decide +kernel
theorem dX6_count_112 : decode cX6_count 112 = .ok (.aload_n 0, 1) := by decide +kernel
theorem dX6_count_113 : decode cX6_count 113 = .ok (.ldc 75, 2) := by decide +kernel
theorem dX6_count_115 : decode cX6_count 115 = .ok (.invokevirtual 76, 3) := by decide +kernel
theorem dX6_count_118 : decode cX6_count 118 = .ok (.ireturn, 1) := by decide +kernel
theorem dX6_told_0 : decode cX6_told 0 = .ok (.iload_n 1, 1) := by decide +kernel
theorem dX6_told_1 : decode cX6_told 1 = .ok (.iconst 1, 1) := by decide +kernel
theorem dX6_told_2 : decode cX6_told 2 = .ok (.bipush 6, 2) := by decide +kernel
theorem dX6_told_4 : decode cX6_told 4 = .ok (.invokestatic 53, 3) := by decide +kernel
theorem dX6_told_7 : decode cX6_told 7 = .ok (.ifCond .eq 12, 3) := by decide +kernel
theorem dX6_told_10 : decode cX6_told 10 = .ok (.aload_n 0, 1) := by decide +kernel
theorem dX6_told_11 : decode cX6_told 11 = .ok (.getfield 16, 3) := by decide +kernel
theorem dX6_told_14 : decode cX6_told 14 = .ok (.iload_n 1, 1) := by decide +kernel
theorem dX6_told_15 : decode cX6_told 15 = .ok (.iaload, 1) := by decide +kernel
theorem dX6_told_16 : decode cX6_told 16 = .ok (.goto 9, 3) := by decide +kernel
theorem dX6_told_19 : decode cX6_told 19 = .ok (.aload_n 0, 1) := by decide +kernel
theorem dX6_told_20 : decode cX6_told 20 = .ok (.ldc 75, 2) := by decide +kernel
theorem dX6_told_22 : decode cX6_told 22 = .ok (.invokevirtual 76, 3) := by decide +kernel
theorem dX6_told_25 : decode cX6_told 25 = .ok (.ireturn, 1) := by decide +kernel
theorem dJ0_indexOf_0f7a4_0 : decode cJ0_indexOf_0f7a4 0 = .ok (.aload_n 0, 1) := by decide +kernel
theorem dJ0_indexOf_0f7a4_1 : decode cJ0_indexOf_0f7a4 1 = .ok (.iload_n 1, 1) := by decide +kernel
theorem dJ0_indexOf_0f7a4_2 : decode cJ0_indexOf_0f7a4 2 = .ok (.iconst 0, 1) := by decide +kernel
theorem dJ0_indexOf_0f7a4_3 : decode cJ0_indexOf_0f7a4 3 = .ok (.invokevirtual 633, 3) := by decide +kernel
theorem dJ0_indexOf_0f7a4_6 : decode cJ0_indexOf_0f7a4 6 = .ok (.ireturn, 1) := by decide +kernel
theorem dJ0_indexOf_7cf53_0 : decode cJ0_indexOf_7cf53 0 = .ok (.aload_n 0, 1) := by decide +kernel
theorem dJ0_indexOf_7cf53_1 : decode cJ0_indexOf_7cf53 1 = .ok (.invokevirtual 492, 3) := by decide +kernel
theorem dJ0_indexOf_7cf53_4 : decode cJ0_indexOf_7cf53 4 = .ok (.ifCond .eq 19, 3) := by decide +kernel
theorem dJ0_indexOf_7cf53_7 : decode cJ0_indexOf_7cf53 7 = .ok (.aload_n 0, 1) := by decide +kernel
theorem dJ0_indexOf_7cf53_8 : decode cJ0_indexOf_7cf53 8 = .ok (.getfield 9, 3) := by decide +kernel
theorem dJ0_indexOf_7cf53_11 : decode cJ0_indexOf_7cf53 11 = .ok (.iload_n 1, 1) := by decide +kernel
theorem dJ0_indexOf_7cf53_12 : decode cJ0_indexOf_7cf53 12 = .ok (.iload_n 2, 1) := by decide +kernel
theorem dJ0_indexOf_7cf53_13 : decode cJ0_indexOf_7cf53 13 = .ok (.aload_n 0, 1) := by decide +kernel
theorem dJ0_indexOf_7cf53_14 : decode cJ0_indexOf_7cf53 14 = .ok (.invokevirtual 505, 3) := by decide +kernel
theorem dJ0_indexOf_7cf53_17 : decode cJ0_indexOf_7cf53 17 = .ok (.invokestatic 637, 3) := by decide +kernel
theorem dJ0_indexOf_7cf53_20 : decode cJ0_indexOf_7cf53 20 = .ok (.goto 16, 3) := by decide +kernel
theorem dJ0_indexOf_7cf53_23 : decode cJ0_indexOf_7cf53 23 = .ok (.aload_n 0, 1) := by decide +kernel
theorem dJ0_indexOf_7cf53_24 : decode cJ0_indexOf_7cf53 24 = .ok (.getfield 9, 3) := by decide +kernel
theorem dJ0_indexOf_7cf53_27 : decode cJ0_indexOf_7cf53 27 = .ok (.iload_n 1, 1) := by decide +kernel
theorem dJ0_indexOf_7cf53_28 : decode cJ0_indexOf_7cf53 28 = .ok (.iload_n 2, 1) := by decide +kernel
theorem dJ0_indexOf_7cf53_29 : decode cJ0_indexOf_7cf53 29 = .ok (.aload_n 0, 1) := by decide +kernel
theorem dJ0_indexOf_7cf53_30 : decode cJ0_indexOf_7cf53 30 = .ok (.invokevirtual 505, 3) := by decide +kernel
theorem dJ0_indexOf_7cf53_33 : decode cJ0_indexOf_7cf53 33 = .ok (.invokestatic 640, 3) := by decide +kernel
theorem dJ0_indexOf_7cf53_36 : decode cJ0_indexOf_7cf53 36 = .ok (.ireturn, 1) := by decide +kernel
theorem dJ0_isLatin1_aae02_0 : decode cJ0_isLatin1_aae02 0 = .ok (.getstatic 38, 3) := by decide +kernel
theorem dJ0_isLatin1_aae02_3 : decode cJ0_isLatin1_aae02 3 = .ok (.ifCond .eq 14, 3) := by decide +kernel
theorem dJ0_isLatin1_aae02_6 : decode cJ0_isLatin1_aae02 6 = .ok (.aload_n 0, 1) := by decide +kernel
theorem dJ0_isLatin1_aae02_7 : decode cJ0_isLatin1_aae02 7 = .ok (.getfield 15, 3) := by decide +kernel
theorem dJ0_isLatin1_aae02_10 : decode cJ0_isLatin1_aae02 10 = .ok (.ifCond .ne 7, 3) := by decide +kernel
theorem dJ0_isLatin1_aae02_13 : decode cJ0_isLatin1_aae02 13 = .ok (.iconst 1, 1) := by decide +kernel
theorem dJ0_isLatin1_aae02_14 : decode cJ0_isLatin1_aae02 14 = .ok (.goto 4, 3) := by decide +kernel
theorem dJ0_isLatin1_aae02_17 : decode cJ0_isLatin1_aae02 17 = .ok (.iconst 0, 1) := by decide +kernel
theorem dJ0_isLatin1_aae02_18 : decode cJ0_isLatin1_aae02 18 = .ok (.ireturn, 1) := by decide +kernel
theorem dJ0_length_8abf5_0 : decode cJ0_length_8abf5 0 = .ok (.aload_n 0, 1) := by decide +kernel
theorem dJ0_length_8abf5_1 : decode cJ0_length_8abf5 1 = .ok (.getfield 9, 3) := by decide +kernel
theorem dJ0_length_8abf5_4 : decode cJ0_length_8abf5 4 = .ok (.arraylength, 1) := by decide +kernel
theorem dJ0_length_8abf5_5 : decode cJ0_length_8abf5 5 = .ok (.aload_n 0, 1) := by decide +kernel
theorem dJ0_length_8abf5_6 : decode cJ0_length_8abf5 6 = .ok (.invokevirtual 335, 3) := by decide +kernel
theorem dJ0_length_8abf5_9 : decode cJ0_length_8abf5 9 = .ok (.ishr, 1) := by decide +kernel
theorem dJ0_length_8abf5_10 : decode cJ0_length_8abf5 10 = .ok (.ireturn, 1) := by decide +kernel
theorem dJ0_coder_7d493_0 : decode cJ0_coder_7d493 0 = .ok (.getstatic 38, 3) := by decide +kernel
theorem dJ0_coder_7d493_3 : decode cJ0_coder_7d493 3 = .ok (.ifCond .eq 10, 3) := by decide +kernel
theorem dJ0_coder_7d493_6 : decode cJ0_coder_7d493 6 = .ok (.aload_n 0, 1) := by decide +kernel
theorem dJ0_coder_7d493_7 : decode cJ0_coder_7d493 7 = .ok (.getfield 15, 3) := by decide +kernel
theorem dJ0_coder_7d493_10 : decode cJ0_coder_7d493 10 = .ok (.goto 4, 3) := by decide +kernel
theorem dJ0_coder_7d493_13 : decode cJ0_coder_7d493 13 = .ok (.iconst 1, 1) := by decide +kernel
theorem dJ0_coder_7d493_14 : decode cJ0_coder_7d493 14 = .ok (.ireturn, 1) := by decide +kernel
theorem dJ1_canEncode_9a6ad_0 : decode cJ1_canEncode_9a6ad 0 = .ok (.iload_n 0, 1) := by decide +kernel
theorem dJ1_canEncode_9a6ad_1 : decode cJ1_canEncode_9a6ad 1 = .ok (.ifCond .lt 14, 3) := by decide +kernel
theorem dJ1_canEncode_9a6ad_4 : decode cJ1_canEncode_9a6ad 4 = .ok (.iload_n 0, 1) := by decide +kernel
theorem dJ1_canEncode_9a6ad_5 : decode cJ1_canEncode_9a6ad 5 = .ok (.sipush 255, 3) := by decide +kernel
theorem dJ1_canEncode_9a6ad_8 : decode cJ1_canEncode_9a6ad 8 = .ok (.if_icmp .gt 7, 3) := by decide +kernel
theorem dJ1_canEncode_9a6ad_11 : decode cJ1_canEncode_9a6ad 11 = .ok (.iconst 1, 1) := by decide +kernel
theorem dJ1_canEncode_9a6ad_12 : decode cJ1_canEncode_9a6ad 12 = .ok (.goto 4, 3) := by decide +kernel
theorem dJ1_canEncode_9a6ad_15 : decode cJ1_canEncode_9a6ad 15 = .ok (.iconst 0, 1) := by decide +kernel
theorem dJ1_canEncode_9a6ad_16 : decode cJ1_canEncode_9a6ad 16 = .ok (.ireturn, 1) := by decide +kernel
theorem dJ1_indexOf_4cfef_0 : decode cJ1_indexOf_4cfef 0 = .ok (.iload_n 1, 1) := by decide +kernel
theorem dJ1_indexOf_4cfef_1 : decode cJ1_indexOf_4cfef 1 = .ok (.invokestatic 88, 3) := by decide +kernel
theorem dJ1_indexOf_4cfef_4 : decode cJ1_indexOf_4cfef 4 = .ok (.ifCond .ne 5, 3) := by decide +kernel
theorem dJ1_indexOf_4cfef_7 : decode cJ1_indexOf_4cfef 7 = .ok (.iconst (-1), 1) := by decide +kernel
theorem dJ1_indexOf_4cfef_8 : decode cJ1_indexOf_4cfef 8 = .ok (.ireturn, 1) := by decide +kernel
theorem dJ1_indexOf_4cfef_9 : decode cJ1_indexOf_4cfef 9 = .ok (.iload_n 2, 1) := by decide +kernel
theorem dJ1_indexOf_4cfef_10 : decode cJ1_indexOf_4cfef 10 = .ok (.iconst 0, 1) := by decide +kernel
theorem dJ1_indexOf_4cfef_11 : decode cJ1_indexOf_4cfef 11 = .ok (.invokestatic 92, 3) := by decide +kernel
theorem dJ1_indexOf_4cfef_14 : decode cJ1_indexOf_4cfef 14 = .ok (.istore_n 2, 1) := by decide +kernel
theorem dJ1_indexOf_4cfef_15 : decode cJ1_indexOf_4cfef 15 = .ok (.iload_n 3, 1) := by decide +kernel
theorem dJ1_indexOf_4cfef_16 : decode cJ1_indexOf_4cfef 16 = .ok (.aload_n 0, 1) := by decide +kernel
theorem dJ1_indexOf_4cfef_17 : decode cJ1_indexOf_4cfef 17 = .ok (.arraylength, 1) := by decide +kernel
theorem dJ1_indexOf_4cfef_18 : decode cJ1_indexOf_4cfef 18 = .ok (.invokestatic 38, 3) := by decide +kernel
theorem dJ1_indexOf_4cfef_21 : decode cJ1_indexOf_4cfef 21 = .ok (.istore_n 3, 1) := by decide +kernel
theorem dJ1_indexOf_4cfef_22 : decode cJ1_indexOf_4cfef 22 = .ok (.iload_n 2, 1) := by decide +kernel
theorem dJ1_indexOf_4cfef_23 : decode cJ1_indexOf_4cfef 23 = .ok (.iload_n 3, 1) := by decide +kernel
theorem dJ1_indexOf_4cfef_24 : decode cJ1_indexOf_4cfef 24 = .ok (.if_icmp .lt 5, 3) := by decide +kernel
theorem dJ1_indexOf_4cfef_27 : decode cJ1_indexOf_4cfef 27 = .ok (.iconst (-1), 1) := by decide +kernel
theorem dJ1_indexOf_4cfef_28 : decode cJ1_indexOf_4cfef 28 = .ok (.ireturn, 1) := by decide +kernel
theorem dJ1_indexOf_4cfef_29 : decode cJ1_indexOf_4cfef 29 = .ok (.aload_n 0, 1) := by decide +kernel
theorem dJ1_indexOf_4cfef_30 : decode cJ1_indexOf_4cfef 30 = .ok (.iload_n 1, 1) := by decide +kernel
theorem dJ1_indexOf_4cfef_31 : decode cJ1_indexOf_4cfef 31 = .ok (.iload_n 2, 1) := by decide +kernel
theorem dJ1_indexOf_4cfef_32 : decode cJ1_indexOf_4cfef 32 = .ok (.iload_n 3, 1) := by decide +kernel
theorem dJ1_indexOf_4cfef_33 : decode cJ1_indexOf_4cfef 33 = .ok (.invokestatic 95, 3) := by decide +kernel
theorem dJ1_indexOf_4cfef_36 : decode cJ1_indexOf_4cfef 36 = .ok (.ireturn, 1) := by decide +kernel
theorem dJ1_indexOfChar_4cfef_0 : decode cJ1_indexOfChar_4cfef 0 = .ok (.iload_n 1, 1) := by decide +kernel
theorem dJ1_indexOfChar_4cfef_1 : decode cJ1_indexOfChar_4cfef 1 = .ok (.i2b, 1) := by decide +kernel
theorem dJ1_indexOfChar_4cfef_2 : decode cJ1_indexOfChar_4cfef 2 = .ok (.istore 4, 2) := by decide +kernel
theorem dJ1_indexOfChar_4cfef_4 : decode cJ1_indexOfChar_4cfef 4 = .ok (.iload_n 2, 1) := by decide +kernel
theorem dJ1_indexOfChar_4cfef_5 : decode cJ1_indexOfChar_4cfef 5 = .ok (.istore 5, 2) := by decide +kernel
theorem dJ1_indexOfChar_4cfef_7 : decode cJ1_indexOfChar_4cfef 7 = .ok (.iload 5, 2) := by decide +kernel
theorem dJ1_indexOfChar_4cfef_9 : decode cJ1_indexOfChar_4cfef 9 = .ok (.iload_n 3, 1) := by decide +kernel
theorem dJ1_indexOfChar_4cfef_10 : decode cJ1_indexOfChar_4cfef 10 = .ok (.if_icmp .ge 21, 3) := by decide +kernel
theorem dJ1_indexOfChar_4cfef_13 : decode cJ1_indexOfChar_4cfef 13 = .ok (.aload_n 0, 1) := by decide +kernel
theorem dJ1_indexOfChar_4cfef_14 : decode cJ1_indexOfChar_4cfef 14 = .ok (.iload 5, 2) := by decide +kernel
theorem dJ1_indexOfChar_4cfef_16 : decode cJ1_indexOfChar_4cfef 16 = .ok (.baload, 1) := by decide +kernel
theorem dJ1_indexOfChar_4cfef_17 : decode cJ1_indexOfChar_4cfef 17 = .ok (.iload 4, 2) := by decide +kernel
theorem dJ1_indexOfChar_4cfef_19 : decode cJ1_indexOfChar_4cfef 19 = .ok (.if_icmp .ne 6, 3) := by decide +kernel
theorem dJ1_indexOfChar_4cfef_22 : decode cJ1_indexOfChar_4cfef 22 = .ok (.iload 5, 2) := by decide +kernel
theorem dJ1_indexOfChar_4cfef_24 : decode cJ1_indexOfChar_4cfef 24 = .ok (.ireturn, 1) := by decide +kernel
theorem dJ1_indexOfChar_4cfef_25 : decode cJ1_indexOfChar_4cfef 25 = .ok (.iinc 5 1, 3) := by decide +kernel
theorem dJ1_indexOfChar_4cfef_28 : decode cJ1_indexOfChar_4cfef 28 = .ok (.goto (-21), 3) := by decide +kernel
theorem dJ1_indexOfChar_4cfef_31 : decode cJ1_indexOfChar_4cfef 31 = .ok (.iconst (-1), 1) := by decide +kernel
theorem dJ1_indexOfChar_4cfef_32 : decode cJ1_indexOfChar_4cfef 32 = .ok (.ireturn, 1) := by decide +kernel
theorem dJ6_bitCount_0f7a4_0 : decode cJ6_bitCount_0f7a4 0 = .ok (.iload_n 0, 1) := by decide +kernel
theorem dJ6_bitCount_0f7a4_1 : decode cJ6_bitCount_0f7a4 1 = .ok (.iload_n 0, 1) := by decide +kernel
theorem dJ6_bitCount_0f7a4_2 : decode cJ6_bitCount_0f7a4 2 = .ok (.iconst 1, 1) := by decide +kernel
theorem dJ6_bitCount_0f7a4_3 : decode cJ6_bitCount_0f7a4 3 = .ok (.iushr, 1) := by decide +kernel
theorem dJ6_bitCount_0f7a4_4 : decode cJ6_bitCount_0f7a4 4 = .ok (.ldc_w 265, 3) := by decide +kernel
theorem dJ6_bitCount_0f7a4_7 : decode cJ6_bitCount_0f7a4 7 = .ok (.iand, 1) := by decide +kernel
theorem dJ6_bitCount_0f7a4_8 : decode cJ6_bitCount_0f7a4 8 = .ok (.isub, 1) := by decide +kernel
theorem dJ6_bitCount_0f7a4_9 : decode cJ6_bitCount_0f7a4 9 = .ok (.istore_n 0, 1) := by decide +kernel
theorem dJ6_bitCount_0f7a4_10 : decode cJ6_bitCount_0f7a4 10 = .ok (.iload_n 0, 1) := by decide +kernel
theorem dJ6_bitCount_0f7a4_11 : decode cJ6_bitCount_0f7a4 11 = .ok (.ldc_w 266, 3) := by decide +kernel
theorem dJ6_bitCount_0f7a4_14 : decode cJ6_bitCount_0f7a4 14 = .ok (.iand, 1) := by decide +kernel
theorem dJ6_bitCount_0f7a4_15 : decode cJ6_bitCount_0f7a4 15 = .ok (.iload_n 0, 1) := by decide +kernel
theorem dJ6_bitCount_0f7a4_16 : decode cJ6_bitCount_0f7a4 16 = .ok (.iconst 2, 1) := by decide +kernel
theorem dJ6_bitCount_0f7a4_17 : decode cJ6_bitCount_0f7a4 17 = .ok (.iushr, 1) := by decide +kernel
theorem dJ6_bitCount_0f7a4_18 : decode cJ6_bitCount_0f7a4 18 = .ok (.ldc_w 266, 3) := by decide +kernel
theorem dJ6_bitCount_0f7a4_21 : decode cJ6_bitCount_0f7a4 21 = .ok (.iand, 1) := by decide +kernel
theorem dJ6_bitCount_0f7a4_22 : decode cJ6_bitCount_0f7a4 22 = .ok (.iadd, 1) := by decide +kernel
theorem dJ6_bitCount_0f7a4_23 : decode cJ6_bitCount_0f7a4 23 = .ok (.istore_n 0, 1) := by decide +kernel
theorem dJ6_bitCount_0f7a4_24 : decode cJ6_bitCount_0f7a4 24 = .ok (.iload_n 0, 1) := by decide +kernel
theorem dJ6_bitCount_0f7a4_25 : decode cJ6_bitCount_0f7a4 25 = .ok (.iload_n 0, 1) := by decide +kernel
theorem dJ6_bitCount_0f7a4_26 : decode cJ6_bitCount_0f7a4 26 = .ok (.iconst 4, 1) := by decide +kernel
theorem dJ6_bitCount_0f7a4_27 : decode cJ6_bitCount_0f7a4 27 = .ok (.iushr, 1) := by decide +kernel
theorem dJ6_bitCount_0f7a4_28 : decode cJ6_bitCount_0f7a4 28 = .ok (.iadd, 1) := by decide +kernel
theorem dJ6_bitCount_0f7a4_29 : decode cJ6_bitCount_0f7a4 29 = .ok (.ldc_w 267, 3) := by decide +kernel
theorem dJ6_bitCount_0f7a4_32 : decode cJ6_bitCount_0f7a4 32 = .ok (.iand, 1) := by decide +kernel
theorem dJ6_bitCount_0f7a4_33 : decode cJ6_bitCount_0f7a4 33 = .ok (.istore_n 0, 1) := by decide +kernel
theorem dJ6_bitCount_0f7a4_34 : decode cJ6_bitCount_0f7a4 34 = .ok (.iload_n 0, 1) := by decide +kernel
theorem dJ6_bitCount_0f7a4_35 : decode cJ6_bitCount_0f7a4 35 = .ok (.iload_n 0, 1) := by decide +kernel
theorem dJ6_bitCount_0f7a4_36 : decode cJ6_bitCount_0f7a4 36 = .ok (.bipush 8, 2) := by decide +kernel
theorem dJ6_bitCount_0f7a4_38 : decode cJ6_bitCount_0f7a4 38 = .ok (.iushr, 1) := by decide +kernel
theorem dJ6_bitCount_0f7a4_39 : decode cJ6_bitCount_0f7a4 39 = .ok (.iadd, 1) := by decide +kernel
theorem dJ6_bitCount_0f7a4_40 : decode cJ6_bitCount_0f7a4 40 = .ok (.istore_n 0, 1) := by decide +kernel
theorem dJ6_bitCount_0f7a4_41 : decode cJ6_bitCount_0f7a4 41 = .ok (.iload_n 0, 1) := by decide +kernel
theorem dJ6_bitCount_0f7a4_42 : decode cJ6_bitCount_0f7a4 42 = .ok (.iload_n 0, 1) := by decide +kernel
theorem dJ6_bitCount_0f7a4_43 : decode cJ6_bitCount_0f7a4 43 = .ok (.bipush 16, 2) := by decide +kernel
theorem dJ6_bitCount_0f7a4_45 : decode cJ6_bitCount_0f7a4 45 = .ok (.iushr, 1) := by decide +kernel
theorem dJ6_bitCount_0f7a4_46 : decode cJ6_bitCount_0f7a4 46 = .ok (.iadd, 1) := by decide +kernel
theorem dJ6_bitCount_0f7a4_47 : decode cJ6_bitCount_0f7a4 47 = .ok (.istore_n 0, 1) := by decide +kernel
theorem dJ6_bitCount_0f7a4_48 : decode cJ6_bitCount_0f7a4 48 = .ok (.iload_n 0, 1) := by decide +kernel
theorem dJ6_bitCount_0f7a4_49 : decode cJ6_bitCount_0f7a4 49 = .ok (.bipush 63, 2) := by decide +kernel
theorem dJ6_bitCount_0f7a4_51 : decode cJ6_bitCount_0f7a4 51 = .ok (.iand, 1) := by decide +kernel
theorem dJ6_bitCount_0f7a4_52 : decode cJ6_bitCount_0f7a4 52 = .ok (.ireturn, 1) := by decide +kernel
