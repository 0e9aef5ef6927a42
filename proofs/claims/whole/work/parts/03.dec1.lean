theorem dX12_write_46 : decode cX12_write 46 = .ok (.bipush 8, 2) := by decide +kernel
theorem dX12_write_48 : decode cX12_write 48 = .ok (.iload 4, 2) := by decide +kernel
theorem dX12_write_50 : decode cX12_write 50 = .ok (.imul, 1) := by decide +kernel
theorem dX12_write_51 : decode cX12_write 51 = .ok (.lshr, 1) := by decide +kernel
theorem dX12_write_52 : decode cX12_write 52 = .ok (.ldc2_w 91, 3) := by decide +kernel
theorem dX12_write_55 : decode cX12_write 55 = .ok (.land, 1) := by decide +kernel
theorem dX12_write_56 : decode cX12_write 56 = .ok (.l2i, 1) := by decide +kernel
theorem dX12_write_57 : decode cX12_write 57 = .ok (.iastore, 1) := by decide +kernel
theorem dX12_write_58 : decode cX12_write 58 = .ok (.aload_n 0, 1) := by decide +kernel
theorem dX12_write_59 : decode cX12_write 59 = .ok (.dup, 1) := by decide +kernel
theorem dX12_write_60 : decode cX12_write 60 = .ok (.getfield 88, 3) := by decide +kernel
theorem dX12_write_63 : decode cX12_write 63 = .ok (.iconst 1, 1) := by decide +kernel
theorem dX12_write_64 : decode cX12_write 64 = .ok (.iadd, 1) := by decide +kernel
theorem dX12_write_65 : decode cX12_write 65 = .ok (.putfield 88, 3) := by decide +kernel
theorem dX12_write_68 : decode cX12_write 68 = .ok (.iinc 4 (-1), 3) := by decide +kernel
theorem dX12_write_71 : decode cX12_write 71 = .ok (.goto (-39), 3) := by decide +kernel
theorem dX12_write_74 : decode cX12_write 74 = .ok (.aload_n 0, 1) := by decide +kernel
theorem dX12_write_75 : decode cX12_write 75 = .ok (.getfield 88, 3) := by decide +kernel
theorem dX12_write_78 : decode cX12_write 78 = .ok (.ireturn, 1) := by decide +kernel
theorem dX12_wipe_0 : decode cX12_wipe 0 = .ok (.aload_n 0, 1) := by decide +kernel
theorem dX12_wipe_1 : decode cX12_wipe 1 = .ok (.getfield 88, 3) := by decide +kernel
theorem dX12_wipe_4 : decode cX12_wipe 4 = .ok (.istore_n 1, 1) := by decide +kernel
theorem dX12_wipe_5 : decode cX12_wipe 5 = .ok (.aload_n 0, 1) := by decide +kernel
theorem dX12_wipe_6 : decode cX12_wipe 6 = .ok (.iconst 0, 1) := by decide +kernel
theorem dX12_wipe_7 : decode cX12_wipe 7 = .ok (.putfield 88, 3) := by decide +kernel
theorem dX12_wipe_10 : decode cX12_wipe 10 = .ok (.iload_n 1, 1) := by decide +kernel
theorem dX12_wipe_11 : decode cX12_wipe 11 = .ok (.ireturn, 1) := by decide +kernel
theorem dX12_byteAt_0 : decode cX12_byteAt 0 = .ok (.iload_n 1, 1) := by decide +kernel
theorem dX12_byteAt_1 : decode cX12_byteAt 1 = .ok (.aload_n 0, 1) := by decide +kernel
theorem dX12_byteAt_2 : decode cX12_byteAt 2 = .ok (.getfield 88, 3) := by decide +kernel
theorem dX12_byteAt_5 : decode cX12_byteAt 5 = .ok (.if_icmp .ge 12, 3) := by decide +kernel
theorem dX12_byteAt_8 : decode cX12_byteAt 8 = .ok (.aload_n 0, 1) := by decide +kernel
theorem dX12_byteAt_9 : decode cX12_byteAt 9 = .ok (.getfield 16, 3) := by decide +kernel
theorem dX12_byteAt_12 : decode cX12_byteAt 12 = .ok (.iload_n 1, 1) := by decide +kernel
theorem dX12_byteAt_13 : decode cX12_byteAt 13 = .ok (.iaload, 1) := by decide +kernel
theorem dX12_byteAt_14 : decode cX12_byteAt 14 = .ok (.goto 4, 3) := by decide +kernel
theorem dX12_byteAt_17 : decode cX12_byteAt 17 = .ok (.iconst (-1), 1) := by decide +kernel
theorem dX12_byteAt_18 : decode cX12_byteAt 18 = .ok (.ireturn, 1) := by decide +kernel
theorem dX12_isFigure_0 : decode cX12_isFigure 0 = .ok (.iload_n 0, 1) := by decide +kernel
theorem dX12_isFigure_1 : decode cX12_isFigure 1 = .ok (.bipush 48, 2) := by decide +kernel
theorem dX12_isFigure_3 : decode cX12_isFigure 3 = .ok (.bipush 57, 2) := by decide +kernel
theorem dX12_isFigure_5 : decode cX12_isFigure 5 = .ok (.invokestatic 84, 3) := by decide +kernel
theorem dX12_isFigure_8 : decode cX12_isFigure 8 = .ok (.ireturn, 1) := by decide +kernel
theorem dX12_readNumbers_0 : decode cX12_readNumbers 0 = .ok (.iconst 0, 1) := by decide +kernel
theorem dX12_readNumbers_1 : decode cX12_readNumbers 1 = .ok (.istore_n 2, 1) := by decide +kernel
theorem dX12_readNumbers_2 : decode cX12_readNumbers 2 = .ok (.iload_n 2, 1) := by decide +kernel
theorem dX12_readNumbers_3 : decode cX12_readNumbers 3 = .ok (.iload_n 1, 1) := by decide +kernel
theorem dX12_readNumbers_4 : decode cX12_readNumbers 4 = .ok (.if_icmp .ge 140, 3) := by decide +kernel
theorem dX12_readNumbers_7 : decode cX12_readNumbers 7 = .ok (.aload_n 0, 1) := by decide +kernel
theorem dX12_readNumbers_8 : decode cX12_readNumbers 8 = .ok (.aload_n 0, 1) := by decide +kernel
theorem dX12_readNumbers_9 : decode cX12_readNumbers 9 = .ok (.getfield 93, 3) := by decide +kernel
theorem dX12_readNumbers_12 : decode cX12_readNumbers 12 = .ok (.invokevirtual 96, 3) := by decide +kernel
theorem dX12_readNumbers_15 : decode cX12_readNumbers 15 = .ok (.invokestatic 100, 3) := by decide +kernel
theorem dX12_readNumbers_18 : decode cX12_readNumbers 18 = .ok (.ifCond .ne 5, 3) := by decide +kernel
theorem dX12_readNumbers_21 : decode cX12_readNumbers 21 = .ok (.iconst 0, 1) := by decide +kernel
theorem dX12_readNumbers_22 : decode cX12_readNumbers 22 = .ok (.ireturn, 1) := by decide +kernel
theorem dX12_readNumbers_23 : decode cX12_readNumbers 23 = .ok (.aload_n 0, 1) := by decide +kernel
theorem dX12_readNumbers_24 : decode cX12_readNumbers 24 = .ok (.getfield 19, 3) := by decide +kernel
theorem dX12_readNumbers_27 : decode cX12_readNumbers 27 = .ok (.iload_n 2, 1) := by decide +kernel
theorem dX12_readNumbers_28 : decode cX12_readNumbers 28 = .ok (.aload_n 0, 1) := by decide +kernel
theorem dX12_readNumbers_29 : decode cX12_readNumbers 29 = .ok (.aload_n 0, 1) := by decide +kernel
theorem dX12_readNumbers_30 : decode cX12_readNumbers 30 = .ok (.getfield 93, 3) := by decide +kernel
theorem dX12_readNumbers_33 : decode cX12_readNumbers 33 = .ok (.invokevirtual 96, 3) := by decide +kernel
theorem dX12_readNumbers_36 : decode cX12_readNumbers 36 = .ok (.bipush 48, 2) := by decide +kernel
theorem dX12_readNumbers_38 : decode cX12_readNumbers 38 = .ok (.isub, 1) := by decide +kernel
theorem dX12_readNumbers_39 : decode cX12_readNumbers 39 = .ok (.iastore, 1) := by decide +kernel
theorem dX12_readNumbers_40 : decode cX12_readNumbers 40 = .ok (.aload_n 0, 1) := by decide +kernel
theorem dX12_readNumbers_41 : decode cX12_readNumbers 41 = .ok (.dup, 1) := by decide +kernel
theorem dX12_readNumbers_42 : decode cX12_readNumbers 42 = .ok (.getfield 93, 3) := by decide +kernel
theorem dX12_readNumbers_45 : decode cX12_readNumbers 45 = .ok (.iconst 1, 1) := by decide +kernel
theorem dX12_readNumbers_46 : decode cX12_readNumbers 46 = .ok (.iadd, 1) := by decide +kernel
theorem dX12_readNumbers_47 : decode cX12_readNumbers 47 = .ok (.putfield 93, 3) := by decide +kernel
theorem dX12_readNumbers_50 : decode cX12_readNumbers 50 = .ok (.aload_n 0, 1) := by decide +kernel
theorem dX12_readNumbers_51 : decode cX12_readNumbers 51 = .ok (.aload_n 0, 1) := by decide +kernel
theorem dX12_readNumbers_52 : decode cX12_readNumbers 52 = .ok (.getfield 93, 3) := by decide +kernel
theorem dX12_readNumbers_55 : decode cX12_readNumbers 55 = .ok (.invokevirtual 96, 3) := by decide +kernel
theorem dX12_readNumbers_58 : decode cX12_readNumbers 58 = .ok (.invokestatic 100, 3) := by decide +kernel
theorem dX12_readNumbers_61 : decode cX12_readNumbers 61 = .ok (.ifCond .eq 40, 3) := by decide +kernel
theorem dX12_readNumbers_64 : decode cX12_readNumbers 64 = .ok (.aload_n 0, 1) := by decide +kernel
theorem dX12_readNumbers_65 : decode cX12_readNumbers 65 = .ok (.getfield 19, 3) := by decide +kernel
theorem dX12_readNumbers_68 : decode cX12_readNumbers 68 = .ok (.iload_n 2, 1) := by decide +kernel
theorem dX12_readNumbers_69 : decode cX12_readNumbers 69 = .ok (.bipush 10, 2) := by decide +kernel
theorem dX12_readNumbers_71 : decode cX12_readNumbers 71 = .ok (.aload_n 0, 1) := by decide +kernel
theorem dX12_readNumbers_72 : decode cX12_readNumbers 72 = .ok (.getfield 19, 3) := by decide +kernel
theorem dX12_readNumbers_75 : decode cX12_readNumbers 75 = .ok (.iload_n 2, 1) := by decide +kernel
theorem dX12_readNumbers_76 : decode cX12_readNumbers 76 = .ok (.iaload, 1) := by decide +kernel
theorem dX12_readNumbers_77 : decode cX12_readNumbers 77 = .ok (.imul, 1) := by decide +kernel
theorem dX12_readNumbers_78 : decode cX12_readNumbers 78 = .ok (.aload_n 0, 1) := by decide +kernel
theorem dX12_readNumbers_79 : decode cX12_readNumbers 79 = .ok (.aload_n 0, 1) := by decide +kernel
theorem dX12_readNumbers_80 : decode cX12_readNumbers 80 = .ok (.getfield 93, 3) := by decide +kernel
theorem dX12_readNumbers_83 : decode cX12_readNumbers 83 = .ok (.invokevirtual 96, 3) := by decide +kernel
theorem dX12_readNumbers_86 : decode cX12_readNumbers 86 = .ok (.iadd, 1) := by decide +kernel
theorem dX12_readNumbers_87 : decode cX12_readNumbers 87 = .ok (.bipush 48, 2) := by decide +kernel
theorem dX12_readNumbers_89 : decode cX12_readNumbers 89 = .ok (.isub, 1) := by decide +kernel
theorem dX12_readNumbers_90 : decode cX12_readNumbers 90 = .ok (.iastore, 1) := by decide +kernel
theorem dX12_readNumbers_91 : decode cX12_readNumbers 91 = .ok (.aload_n 0, 1) := by decide +kernel
theorem dX12_readNumbers_92 : decode cX12_readNumbers 92 = .ok (.dup, 1) := by decide +kernel
theorem dX12_readNumbers_93 : decode cX12_readNumbers 93 = .ok (.getfield 93, 3) := by decide +kernel
theorem dX12_readNumbers_96 : decode cX12_readNumbers 96 = .ok (.iconst 1, 1) := by decide +kernel
theorem dX12_readNumbers_97 : decode cX12_readNumbers 97 = .ok (.iadd, 1) := by decide +kernel
theorem dX12_readNumbers_98 : decode cX12_readNumbers 98 = .ok (.putfield 93, 3) := by decide +kernel
theorem dX12_readNumbers_101 : decode cX12_readNumbers 101 = .ok (.aload_n 0, 1) := by decide +kernel
theorem dX12_readNumbers_102 : decode cX12_readNumbers 102 = .ok (.aload_n 0, 1) := by decide +kernel
theorem dX12_readNumbers_103 : decode cX12_readNumbers 103 = .ok (.getfield 93, 3) := by decide +kernel
theorem dX12_readNumbers_106 : decode cX12_readNumbers 106 = .ok (.invokevirtual 96, 3) := by decide +kernel
theorem dX12_readNumbers_109 : decode cX12_readNumbers 109 = .ok (.iload_n 2, 1) := by decide +kernel
theorem dX12_readNumbers_110 : decode cX12_readNumbers 110 = .ok (.iload_n 1, 1) := by decide +kernel
theorem dX12_readNumbers_111 : decode cX12_readNumbers 111 = .ok (.iconst 1, 1) := by decide +kernel
theorem dX12_readNumbers_112 : decode cX12_readNumbers 112 = .ok (.isub, 1) := by decide +kernel
theorem dX12_readNumbers_113 : decode cX12_readNumbers 113 = .ok (.if_icmp .ge 8, 3) := by decide +kernel
theorem dX12_readNumbers_116 : decode cX12_readNumbers 116 = .ok (.bipush 44, 2) := by decide +kernel
theorem dX12_readNumbers_118 : decode cX12_readNumbers 118 = .ok (.goto 5, 3) := by decide +kernel
theorem dX12_readNumbers_121 : decode cX12_readNumbers 121 = .ok (.bipush 59, 2) := by decide +kernel
theorem dX12_readNumbers_123 : decode cX12_readNumbers 123 = .ok (.if_icmp .eq 5, 3) := by decide +kernel
theorem dX12_readNumbers_126 : decode cX12_readNumbers 126 = .ok (.iconst 0, 1) := by decide +kernel
theorem dX12_readNumbers_127 : decode cX12_readNumbers 127 = .ok (.ireturn, 1) := by decide +kernel
theorem dX12_readNumbers_128 : decode cX12_readNumbers 128 = .ok (.aload_n 0, 1) := by decide +kernel
theorem dX12_readNumbers_129 : decode cX12_readNumbers 129 = .ok (.dup, 1) := by decide +kernel
theorem dX12_readNumbers_130 : decode cX12_readNumbers 130 = .ok (.getfield 93, 3) := by decide +kernel
theorem dX12_readNumbers_133 : decode cX12_readNumbers 133 = .ok (.iconst 1, 1) := by decide +kernel
theorem dX12_readNumbers_134 : decode cX12_readNumbers 134 = .ok (.iadd, 1) := by decide +kernel
theorem dX12_readNumbers_135 : decode cX12_readNumbers 135 = .ok (.putfield 93, 3) := by decide +kernel
theorem dX12_readNumbers_138 : decode cX12_readNumbers 138 = .ok (.iinc 2 1, 3) := by decide +kernel
theorem dX12_readNumbers_141 : decode cX12_readNumbers 141 = .ok (.goto (-139), 3) := by decide +kernel
theorem dX12_readNumbers_144 : decode cX12_readNumbers 144 = .ok (.iconst 1, 1) := by decide +kernel
theorem dX12_readNumbers_145 : decode cX12_readNumbers 145 = .ok (.ireturn, 1) := by decide +kernel
theorem dX12_readGround_0 : decode cX12_readGround 0 = .ok (.aload_n 0, 1) := by decide +kernel
theorem dX12_readGround_1 : decode cX12_readGround 1 = .ok (.iconst 1, 1) := by decide +kernel
theorem dX12_readGround_2 : decode cX12_readGround 2 = .ok (.invokevirtual 104, 3) := by decide +kernel
theorem dX12_readGround_5 : decode cX12_readGround 5 = .ok (.ifCond .eq 18, 3) := by decide +kernel
theorem dX12_readGround_8 : decode cX12_readGround 8 = .ok (.aload_n 0, 1) := by decide +kernel
theorem dX12_readGround_9 : decode cX12_readGround 9 = .ok (.getfield 19, 3) := by decide +kernel
theorem dX12_readGround_12 : decode cX12_readGround 12 = .ok (.iconst 0, 1) := by decide +kernel
theorem dX12_readGround_13 : decode cX12_readGround 13 = .ok (.iaload, 1) := by decide +kernel
theorem dX12_readGround_14 : decode cX12_readGround 14 = .ok (.iconst 5, 1) := by decide +kernel
theorem dX12_readGround_15 : decode cX12_readGround 15 = .ok (.bipush 40, 2) := by decide +kernel
theorem dX12_readGround_17 : decode cX12_readGround 17 = .ok (.invokestatic 84, 3) := by decide +kernel
theorem dX12_readGround_20 : decode cX12_readGround 20 = .ok (.ifCond .ne 5, 3) := by decide +kernel
theorem dX12_readGround_23 : decode cX12_readGround 23 = .ok (.iconst 0, 1) := by decide +kernel
theorem dX12_readGround_24 : decode cX12_readGround 24 = .ok (.ireturn, 1) := by decide +kernel
theorem dX12_readGround_25 : decode cX12_readGround 25 = .ok (.aload_n 0, 1) := by decide +kernel
theorem dX12_readGround_26 : decode cX12_readGround 26 = .ok (.aload_n 0, 1) := by decide +kernel
theorem dX12_readGround_27 : decode cX12_readGround 27 = .ok (.getfield 19, 3) := by decide +kernel
theorem dX12_readGround_30 : decode cX12_readGround 30 = .ok (.iconst 0, 1) := by decide +kernel
theorem dX12_readGround_31 : decode cX12_readGround 31 = .ok (.iaload, 1) := by decide +kernel
theorem dX12_readGround_32 : decode cX12_readGround 32 = .ok (.putfield 107, 3) := by decide +kernel
theorem dX12_readGround_35 : decode cX12_readGround 35 = .ok (.iconst 1, 1) := by decide +kernel
theorem dX12_readGround_36 : decode cX12_readGround 36 = .ok (.ireturn, 1) := by decide +kernel
theorem dX12_readSlide_0 : decode cX12_readSlide 0 = .ok (.aload_n 0, 1) := by decide +kernel
theorem dX12_readSlide_1 : decode cX12_readSlide 1 = .ok (.iconst 1, 1) := by decide +kernel
theorem dX12_readSlide_2 : decode cX12_readSlide 2 = .ok (.invokevirtual 104, 3) := by decide +kernel
theorem dX12_readSlide_5 : decode cX12_readSlide 5 = .ok (.ifCond .eq 17, 3) := by decide +kernel
theorem dX12_readSlide_8 : decode cX12_readSlide 8 = .ok (.aload_n 0, 1) := by decide +kernel
theorem dX12_readSlide_9 : decode cX12_readSlide 9 = .ok (.getfield 19, 3) := by decide +kernel
theorem dX12_readSlide_12 : decode cX12_readSlide 12 = .ok (.iconst 0, 1) := by decide +kernel
theorem dX12_readSlide_13 : decode cX12_readSlide 13 = .ok (.iaload, 1) := by decide +kernel
theorem dX12_readSlide_14 : decode cX12_readSlide 14 = .ok (.iconst 0, 1) := by decide +kernel
theorem dX12_readSlide_15 : decode cX12_readSlide 15 = .ok (.iconst 3, 1) := by decide +kernel
theorem dX12_readSlide_16 : decode cX12_readSlide 16 = .ok (.invokestatic 84, 3) := by decide +kernel
theorem dX12_readSlide_19 : decode cX12_readSlide 19 = .ok (.ifCond .ne 5, 3) := by decide +kernel
theorem dX12_readSlide_22 : decode cX12_readSlide 22 = .ok (.iconst 0, 1) := by decide +kernel
theorem dX12_readSlide_23 : decode cX12_readSlide 23 = .ok (.ireturn, 1) := by decide +kernel
theorem dX12_readSlide_24 : decode cX12_readSlide 24 = .ok (.aload_n 0, 1) := by decide +kernel
theorem dX12_readSlide_25 : decode cX12_readSlide 25 = .ok (.aload_n 0, 1) := by decide +kernel
theorem dX12_readSlide_26 : decode cX12_readSlide 26 = .ok (.getfield 19, 3) := by decide +kernel
theorem dX12_readSlide_29 : decode cX12_readSlide 29 = .ok (.iconst 0, 1) := by decide +kernel
theorem dX12_readSlide_30 : decode cX12_readSlide 30 = .ok (.iaload, 1) := by decide +kernel
theorem dX12_readSlide_31 : decode cX12_readSlide 31 = .ok (.putfield 110, 3) := by decide +kernel
theorem dX12_readSlide_34 : decode cX12_readSlide 34 = .ok (.iconst 1, 1) := by decide +kernel
theorem dX12_readSlide_35 : decode cX12_readSlide 35 = .ok (.ireturn, 1) := by decide +kernel
theorem dX12_readPlayer_0 : decode cX12_readPlayer 0 = .ok (.aload_n 0, 1) := by decide +kernel
theorem dX12_readPlayer_1 : decode cX12_readPlayer 1 = .ok (.getfield 113, 3) := by decide +kernel
theorem dX12_readPlayer_4 : decode cX12_readPlayer 4 = .ok (.iconst 5, 1) := by decide +kernel
theorem dX12_readPlayer_5 : decode cX12_readPlayer 5 = .ok (.if_icmp .eq 11, 3) := by decide +kernel
theorem dX12_readPlayer_8 : decode cX12_readPlayer 8 = .ok (.aload_n 0, 1) := by decide +kernel
theorem dX12_readPlayer_9 : decode cX12_readPlayer 9 = .ok (.iconst 5, 1) := by decide +kernel
theorem dX12_readPlayer_10 : decode cX12_readPlayer 10 = .ok (.invokevirtual 104, 3) := by decide +kernel
theorem dX12_readPlayer_13 : decode cX12_readPlayer 13 = .ok (.ifCond .ne 5, 3) := by decide +kernel
theorem dX12_readPlayer_16 : decode cX12_readPlayer 16 = .ok (.iconst 0, 1) := by decide +kernel
theorem dX12_readPlayer_17 : decode cX12_readPlayer 17 = .ok (.ireturn, 1) := by decide +kernel
theorem dX12_readPlayer_18 : decode cX12_readPlayer 18 = .ok (.aload_n 0, 1) := by decide +kernel
theorem dX12_readPlayer_19 : decode cX12_readPlayer 19 = .ok (.getfield 19, 3) := by decide +kernel
theorem dX12_readPlayer_22 : decode cX12_readPlayer 22 = .ok (.iconst 0, 1) := by decide +kernel
theorem dX12_readPlayer_23 : decode cX12_readPlayer 23 = .ok (.iaload, 1) := by decide +kernel
theorem dX12_readPlayer_24 : decode cX12_readPlayer 24 = .ok (.iconst 0, 1) := by decide +kernel
theorem dX12_readPlayer_25 : decode cX12_readPlayer 25 = .ok (.bipush 40, 2) := by decide +kernel
theorem dX12_readPlayer_27 : decode cX12_readPlayer 27 = .ok (.invokestatic 84, 3) := by decide +kernel
theorem dX12_readPlayer_30 : decode cX12_readPlayer 30 = .ok (.ifCond .eq 61, 3) := by decide +kernel
theorem dX12_readPlayer_33 : decode cX12_readPlayer 33 = .ok (.aload_n 0, 1) := by decide +kernel
theorem dX12_readPlayer_34 : decode cX12_readPlayer 34 = .ok (.getfield 19, 3) := by decide +kernel
theorem dX12_readPlayer_37 : decode cX12_readPlayer 37 = .ok (.iconst 1, 1) := by decide +kernel
theorem dX12_readPlayer_38 : decode cX12_readPlayer 38 = .ok (.iaload, 1) := by decide +kernel
theorem dX12_readPlayer_39 : decode cX12_readPlayer 39 = .ok (.iconst 1, 1) := by decide +kernel
theorem dX12_readPlayer_40 : decode cX12_readPlayer 40 = .ok (.iconst 5, 1) := by decide +kernel
theorem dX12_readPlayer_41 : decode cX12_readPlayer 41 = .ok (.invokestatic 84, 3) := by decide +kernel
theorem dX12_readPlayer_44 : decode cX12_readPlayer 44 = .ok (.ifCond .eq 47, 3) := by decide +kernel
theorem dX12_readPlayer_47 : decode cX12_readPlayer 47 = .ok (.aload_n 0, 1) := by decide +kernel
theorem dX12_readPlayer_48 : decode cX12_readPlayer 48 = .ok (.getfield 19, 3) := by decide +kernel
theorem dX12_readPlayer_51 : decode cX12_readPlayer 51 = .ok (.iconst 2, 1) := by decide +kernel
theorem dX12_readPlayer_52 : decode cX12_readPlayer 52 = .ok (.iaload, 1) := by decide +kernel
theorem dX12_readPlayer_53 : decode cX12_readPlayer 53 = .ok (.iconst 1, 1) := by decide +kernel
theorem dX12_readPlayer_54 : decode cX12_readPlayer 54 = .ok (.bipush 9, 2) := by decide +kernel
theorem dX12_readPlayer_56 : decode cX12_readPlayer 56 = .ok (.invokestatic 84, 3) := by decide +kernel
theorem dX12_readPlayer_59 : decode cX12_readPlayer 59 = .ok (.ifCond .eq 32, 3) := by decide +kernel
theorem dX12_readPlayer_62 : decode cX12_readPlayer 62 = .ok (.aload_n 0, 1) := by decide +kernel
theorem dX12_readPlayer_63 : decode cX12_readPlayer 63 = .ok (.getfield 19, 3) := by decide +kernel
theorem dX12_readPlayer_66 : decode cX12_readPlayer 66 = .ok (.iconst 3, 1) := by decide +kernel
theorem dX12_readPlayer_67 : decode cX12_readPlayer 67 = .ok (.iaload, 1) := by decide +kernel
theorem dX12_readPlayer_68 : decode cX12_readPlayer 68 = .ok (.iconst 0, 1) := by decide +kernel
theorem dX12_readPlayer_69 : decode cX12_readPlayer 69 = .ok (.bipush 9, 2) := by decide +kernel
theorem dX12_readPlayer_71 : decode cX12_readPlayer 71 = .ok (.invokestatic 84, 3) := by decide +kernel
theorem dX12_readPlayer_74 : decode cX12_readPlayer 74 = .ok (.ifCond .eq 17, 3) := by decide +kernel
theorem dX12_readPlayer_77 : decode cX12_readPlayer 77 = .ok (.aload_n 0, 1) := by decide +kernel
theorem dX12_readPlayer_78 : decode cX12_readPlayer 78 = .ok (.getfield 19, 3) := by decide +kernel
theorem dX12_readPlayer_81 : decode cX12_readPlayer 81 = .ok (.iconst 4, 1) := by decide +kernel
theorem dX12_readPlayer_82 : decode cX12_readPlayer 82 = .ok (.iaload, 1) := by decide +kernel
theorem dX12_readPlayer_83 : decode cX12_readPlayer 83 = .ok (.iconst 0, 1) := by decide +kernel
theorem dX12_readPlayer_84 : decode cX12_readPlayer 84 = .ok (.iconst 3, 1) := by decide +kernel
theorem dX12_readPlayer_85 : decode cX12_readPlayer 85 = .ok (.invokestatic 84, 3) := by decide +kernel
theorem dX12_readPlayer_88 : decode cX12_readPlayer 88 = .ok (.ifCond .ne 5, 3) := by decide +kernel
theorem dX12_readPlayer_91 : decode cX12_readPlayer 91 = .ok (.iconst 0, 1) := by decide +kernel
theorem dX12_readPlayer_92 : decode cX12_readPlayer 92 = .ok (.ireturn, 1) := by decide +kernel
theorem dX12_readPlayer_93 : decode cX12_readPlayer 93 = .ok (.iconst 0, 1) := by decide +kernel
theorem dX12_readPlayer_94 : decode cX12_readPlayer 94 = .ok (.istore_n 1, 1) := by decide +kernel
theorem dX12_readPlayer_95 : decode cX12_readPlayer 95 = .ok (.iload_n 1, 1) := by decide +kernel
theorem dX12_readPlayer_96 : decode cX12_readPlayer 96 = .ok (.iconst 5, 1) := by decide +kernel
theorem dX12_readPlayer_97 : decode cX12_readPlayer 97 = .ok (.if_icmp .ge 28, 3) := by decide +kernel
theorem dX12_readPlayer_100 : decode cX12_readPlayer 100 = .ok (.aload_n 0, 1) := by decide +kernel
theorem dX12_readPlayer_101 : decode cX12_readPlayer 101 = .ok (.getfield 22, 3) := by decide +kernel
theorem dX12_readPlayer_104 : decode cX12_readPlayer 104 = .ok (.iconst 5, 1) := by decide +kernel
theorem dX12_readPlayer_105 : decode cX12_readPlayer 105 = .ok (.aload_n 0, 1) := by decide +kernel
theorem dX12_readPlayer_106 : decode cX12_readPlayer 106 = .ok (.getfield 113, 3) := by decide +kernel
theorem dX12_readPlayer_109 : decode cX12_readPlayer 109 = .ok (.imul, 1) := by decide +kernel
theorem dX12_readPlayer_110 : decode cX12_readPlayer 110 = .ok (.iload_n 1, 1) := by decide +kernel
theorem dX12_readPlayer_111 : decode cX12_readPlayer 111 = .ok (.iadd, 1) := by decide +kernel
theorem dX12_readPlayer_112 : decode cX12_readPlayer 112 = .ok (.aload_n 0, 1) := by decide +kernel
theorem dX12_readPlayer_113 : decode cX12_readPlayer 113 = .ok (.getfield 19, 3) := by decide +kernel
theorem dX12_readPlayer_116 : decode cX12_readPlayer 116 = .ok (.iload_n 1, 1) := by decide +kernel
theorem dX12_readPlayer_117 : decode cX12_readPlayer 117 = .ok (.iaload, 1) := by decide +kernel
theorem dX12_readPlayer_118 : decode cX12_readPlayer 118 = .ok (.iastore, 1) := by decide +kernel
theorem dX12_readPlayer_119 : decode cX12_readPlayer 119 = .ok (.iinc 1 1, 3) := by decide +kernel
theorem dX12_readPlayer_122 : decode cX12_readPlayer 122 = .ok (.goto (-27), 3) := by decide +kernel
theorem dX12_readPlayer_125 : decode cX12_readPlayer 125 = .ok (.aload_n 0, 1) := by decide +kernel
theorem dX12_readPlayer_126 : decode cX12_readPlayer 126 = .ok (.getfield 25, 3) := by decide +kernel
theorem dX12_readPlayer_129 : decode cX12_readPlayer 129 = .ok (.aload_n 0, 1) := by decide +kernel
theorem dX12_readPlayer_130 : decode cX12_readPlayer 130 = .ok (.getfield 113, 3) := by decide +kernel
theorem dX12_readPlayer_133 : decode cX12_readPlayer 133 = .ok (.bipush (-4), 2) := by decide +kernel
theorem dX12_readPlayer_135 : decode cX12_readPlayer 135 = .ok (.iastore, 1) := by decide +kernel
theorem dX12_readPlayer_136 : decode cX12_readPlayer 136 = .ok (.aload_n 0, 1) := by decide +kernel
theorem dX12_readPlayer_137 : decode cX12_readPlayer 137 = .ok (.getfield 28, 3) := by decide +kernel
theorem dX12_readPlayer_140 : decode cX12_readPlayer 140 = .ok (.aload_n 0, 1) := by decide +kernel
theorem dX12_readPlayer_141 : decode cX12_readPlayer 141 = .ok (.getfield 113, 3) := by decide +kernel
theorem dX12_readPlayer_144 : decode cX12_readPlayer 144 = .ok (.iconst 0, 1) := by decide +kernel
theorem dX12_readPlayer_145 : decode cX12_readPlayer 145 = .ok (.iastore, 1) := by decide +kernel
theorem dX12_readPlayer_146 : decode cX12_readPlayer 146 = .ok (.aload_n 0, 1) := by decide +kernel
theorem dX12_readPlayer_147 : decode cX12_readPlayer 147 = .ok (.dup, 1) := by decide +kernel
theorem dX12_readPlayer_148 : decode cX12_readPlayer 148 = .ok (.getfield 113, 3) := by decide +kernel
theorem dX12_readPlayer_151 : decode cX12_readPlayer 151 = .ok (.iconst 1, 1) := by decide +kernel
theorem dX12_readPlayer_152 : decode cX12_readPlayer 152 = .ok (.iadd, 1) := by decide +kernel
theorem dX12_readPlayer_153 : decode cX12_readPlayer 153 = .ok (.putfield 113, 3) := by decide +kernel
theorem dX12_readPlayer_156 : decode cX12_readPlayer 156 = .ok (.iconst 1, 1) := by decide +kernel
theorem dX12_readPlayer_157 : decode cX12_readPlayer 157 = .ok (.ireturn, 1) := by decide +kernel
theorem dX12_readCalled_0 : decode cX12_readCalled 0 = .ok (.aload_n 0, 1) := by decide +kernel
theorem dX12_readCalled_1 : decode cX12_readCalled 1 = .ok (.iconst 4, 1) := by decide +kernel
theorem dX12_readCalled_2 : decode cX12_readCalled 2 = .ok (.invokevirtual 104, 3) := by decide +kernel
theorem dX12_readCalled_5 : decode cX12_readCalled 5 = .ok (.ifCond .eq 44, 3) := by decide +kernel
theorem dX12_readCalled_8 : decode cX12_readCalled 8 = .ok (.aload_n 0, 1) := by decide +kernel
theorem dX12_readCalled_9 : decode cX12_readCalled 9 = .ok (.getfield 19, 3) := by decide +kernel
theorem dX12_readCalled_12 : decode cX12_readCalled 12 = .ok (.iconst 0, 1) := by decide +kernel
theorem dX12_readCalled_13 : decode cX12_readCalled 13 = .ok (.iaload, 1) := by decide +kernel
theorem dX12_readCalled_14 : decode cX12_readCalled 14 = .ok (.aload_n 0, 1) := by decide +kernel
theorem dX12_readCalled_15 : decode cX12_readCalled 15 = .ok (.getfield 113, 3) := by decide +kernel
theorem dX12_readCalled_18 : decode cX12_readCalled 18 = .ok (.if_icmp .ge 31, 3) := by decide +kernel
theorem dX12_readCalled_21 : decode cX12_readCalled 21 = .ok (.aload_n 0, 1) := by decide +kernel
theorem dX12_readCalled_22 : decode cX12_readCalled 22 = .ok (.getfield 19, 3) := by decide +kernel
theorem dX12_readCalled_25 : decode cX12_readCalled 25 = .ok (.iconst 1, 1) := by decide +kernel
theorem dX12_readCalled_26 : decode cX12_readCalled 26 = .ok (.iaload, 1) := by decide +kernel
theorem dX12_readCalled_27 : decode cX12_readCalled 27 = .ok (.aload_n 0, 1) := by decide +kernel
theorem dX12_readCalled_28 : decode cX12_readCalled 28 = .ok (.getfield 113, 3) := by decide +kernel
theorem dX12_readCalled_31 : decode cX12_readCalled 31 = .ok (.if_icmp .ge 18, 3) := by decide +kernel
theorem dX12_readCalled_34 : decode cX12_readCalled 34 = .ok (.aload_n 0, 1) := by decide +kernel
theorem dX12_readCalled_35 : decode cX12_readCalled 35 = .ok (.getfield 19, 3) := by decide +kernel
theorem dX12_readCalled_38 : decode cX12_readCalled 38 = .ok (.iconst 0, 1) := by decide +kernel
theorem dX12_readCalled_39 : decode cX12_readCalled 39 = .ok (.iaload, 1) := by decide +kernel
theorem dX12_readCalled_40 : decode cX12_readCalled 40 = .ok (.aload_n 0, 1) := by decide +kernel
theorem dX12_readCalled_41 : decode cX12_readCalled 41 = .ok (.getfield 19, 3) := by decide +kernel
theorem dX12_readCalled_44 : decode cX12_readCalled 44 = .ok (.iconst 1, 1) := by decide +kernel
theorem dX12_readCalled_45 : decode cX12_readCalled 45 = .ok (.iaload, 1) := by decide +kernel
theorem dX12_readCalled_46 : decode cX12_readCalled 46 = .ok (.if_icmp .ne 5, 3) := by decide +kernel
theorem dX12_readCalled_49 : decode cX12_readCalled 49 = .ok (.iconst 0, 1) := by decide +kernel
theorem dX12_readCalled_50 : decode cX12_readCalled 50 = .ok (.ireturn, 1) := by decide +kernel
theorem dX12_readCalled_51 : decode cX12_readCalled 51 = .ok (.aload_n 0, 1) := by decide +kernel
theorem dX12_readCalled_52 : decode cX12_readCalled 52 = .ok (.getfield 19, 3) := by decide +kernel
theorem dX12_readCalled_55 : decode cX12_readCalled 55 = .ok (.iconst 2, 1) := by decide +kernel
theorem dX12_readCalled_56 : decode cX12_readCalled 56 = .ok (.iaload, 1) := by decide +kernel
theorem dX12_readCalled_57 : decode cX12_readCalled 57 = .ok (.iconst 0, 1) := by decide +kernel
theorem dX12_readCalled_58 : decode cX12_readCalled 58 = .ok (.bipush 40, 2) := by decide +kernel
theorem dX12_readCalled_60 : decode cX12_readCalled 60 = .ok (.invokestatic 84, 3) := by decide +kernel
theorem dX12_readCalled_63 : decode cX12_readCalled 63 = .ok (.ifCond .eq 18, 3) := by decide +kernel
theorem dX12_readCalled_66 : decode cX12_readCalled 66 = .ok (.aload_n 0, 1) := by decide +kernel
theorem dX12_readCalled_67 : decode cX12_readCalled 67 = .ok (.getfield 19, 3) := by decide +kernel
theorem dX12_readCalled_70 : decode cX12_readCalled 70 = .ok (.iconst 3, 1) := by decide +kernel
theorem dX12_readCalled_71 : decode cX12_readCalled 71 = .ok (.iaload, 1) := by decide +kernel
theorem dX12_readCalled_72 : decode cX12_readCalled 72 = .ok (.iconst 1, 1) := by decide +kernel
theorem dX12_readCalled_73 : decode cX12_readCalled 73 = .ok (.bipush 9, 2) := by decide +kernel
theorem dX12_readCalled_75 : decode cX12_readCalled 75 = .ok (.invokestatic 84, 3) := by decide +kernel
theorem dX12_readCalled_78 : decode cX12_readCalled 78 = .ok (.ifCond .ne 5, 3) := by decide +kernel
theorem dX12_readCalled_81 : decode cX12_readCalled 81 = .ok (.iconst 0, 1) := by decide +kernel
theorem dX12_readCalled_82 : decode cX12_readCalled 82 = .ok (.ireturn, 1) := by decide +kernel
theorem dX12_readCalled_83 : decode cX12_readCalled 83 = .ok (.aload_n 0, 1) := by decide +kernel
theorem dX12_readCalled_84 : decode cX12_readCalled 84 = .ok (.getfield 25, 3) := by decide +kernel
theorem dX12_readCalled_87 : decode cX12_readCalled 87 = .ok (.aload_n 0, 1) := by decide +kernel
theorem dX12_readCalled_88 : decode cX12_readCalled 88 = .ok (.getfield 19, 3) := by decide +kernel
theorem dX12_readCalled_91 : decode cX12_readCalled 91 = .ok (.iconst 0, 1) := by decide +kernel
theorem dX12_readCalled_92 : decode cX12_readCalled 92 = .ok (.iaload, 1) := by decide +kernel
theorem dX12_readCalled_93 : decode cX12_readCalled 93 = .ok (.aload_n 0, 1) := by decide +kernel
theorem dX12_readCalled_94 : decode cX12_readCalled 94 = .ok (.getfield 19, 3) := by decide +kernel
theorem dX12_readCalled_97 : decode cX12_readCalled 97 = .ok (.iconst 1, 1) := by decide +kernel
theorem dX12_readCalled_98 : decode cX12_readCalled 98 = .ok (.iaload, 1) := by decide +kernel
theorem dX12_readCalled_99 : decode cX12_readCalled 99 = .ok (.iastore, 1) := by decide +kernel
theorem dX12_readCalled_100 : decode cX12_readCalled 100 = .ok (.aload_n 0, 1) := by decide +kernel
theorem dX12_readCalled_101 : decode cX12_readCalled 101 = .ok (.getfield 25, 3) := by decide +kernel
theorem dX12_readCalled_104 : decode cX12_readCalled 104 = .ok (.iconst 5, 1) := by decide +kernel
theorem dX12_readCalled_105 : decode cX12_readCalled 105 = .ok (.aload_n 0, 1) := by decide +kernel
theorem dX12_readCalled_106 : decode cX12_readCalled 106 = .ok (.getfield 19, 3) := by decide +kernel
theorem dX12_readCalled_109 : decode cX12_readCalled 109 = .ok (.iconst 0, 1) := by decide +kernel
theorem dX12_readCalled_110 : decode cX12_readCalled 110 = .ok (.iaload, 1) := by decide +kernel
theorem dX12_readCalled_111 : decode cX12_readCalled 111 = .ok (.iadd, 1) := by decide +kernel
theorem dX12_readCalled_112 : decode cX12_readCalled 112 = .ok (.aload_n 0, 1) := by decide +kernel
theorem dX12_readCalled_113 : decode cX12_readCalled 113 = .ok (.getfield 19, 3) := by decide +kernel
theorem dX12_readCalled_116 : decode cX12_readCalled 116 = .ok (.iconst 2, 1) := by decide +kernel
theorem dX12_readCalled_117 : decode cX12_readCalled 117 = .ok (.iaload, 1) := by decide +kernel
theorem dX12_readCalled_118 : decode cX12_readCalled 118 = .ok (.iastore, 1) := by decide +kernel
theorem dX12_readCalled_119 : decode cX12_readCalled 119 = .ok (.aload_n 0, 1) := by decide +kernel
theorem dX12_readCalled_120 : decode cX12_readCalled 120 = .ok (.getfield 25, 3) := by decide +kernel
theorem dX12_readCalled_123 : decode cX12_readCalled 123 = .ok (.bipush 10, 2) := by decide +kernel
theorem dX12_readCalled_125 : decode cX12_readCalled 125 = .ok (.aload_n 0, 1) := by decide +kernel
theorem dX12_readCalled_126 : decode cX12_readCalled 126 = .ok (.getfield 19, 3) := by decide +kernel
theorem dX12_readCalled_129 : decode cX12_readCalled 129 = .ok (.iconst 0, 1) := by decide +kernel
theorem dX12_readCalled_130 : decode cX12_readCalled 130 = .ok (.iaload, 1) := by decide +kernel
theorem dX12_readCalled_131 : decode cX12_readCalled 131 = .ok (.iadd, 1) := by decide +kernel
theorem dX12_readCalled_132 : decode cX12_readCalled 132 = .ok (.aload_n 0, 1) := by decide +kernel
theorem dX12_readCalled_133 : decode cX12_readCalled 133 = .ok (.getfield 19, 3) := by decide +kernel
theorem dX12_readCalled_136 : decode cX12_readCalled 136 = .ok (.iconst 3, 1) := by decide +kernel
theorem dX12_readCalled_137 : decode cX12_readCalled 137 = .ok (.iaload, 1) := by decide +kernel
theorem dX12_readCalled_138 : decode cX12_readCalled 138 = .ok (.iastore, 1) := by decide +kernel
theorem dX12_readCalled_139 : decode cX12_readCalled 139 = .ok (.iconst 1, 1) := by decide +kernel
theorem dX12_readCalled_140 : decode cX12_readCalled 140 = .ok (.ireturn, 1) := by decide +kernel
theorem dX12_readLettersOf_0 : decode cX12_readLettersOf 0 = .ok (.aload_n 0, 1) := by decide +kernel
theorem dX12_readLettersOf_1 : decode cX12_readLettersOf 1 = .ok (.iconst 2, 1) := by decide +kernel
theorem dX12_readLettersOf_2 : decode cX12_readLettersOf 2 = .ok (.invokevirtual 104, 3) := by decide +kernel
theorem dX12_readLettersOf_5 : decode cX12_readLettersOf 5 = .ok (.ifCond .eq 30, 3) := by decide +kernel
theorem dX12_readLettersOf_8 : decode cX12_readLettersOf 8 = .ok (.aload_n 0, 1) := by decide +kernel
theorem dX12_readLettersOf_9 : decode cX12_readLettersOf 9 = .ok (.getfield 19, 3) := by decide +kernel
theorem dX12_readLettersOf_12 : decode cX12_readLettersOf 12 = .ok (.iconst 0, 1) := by decide +kernel
theorem dX12_readLettersOf_13 : decode cX12_readLettersOf 13 = .ok (.iaload, 1) := by decide +kernel
theorem dX12_readLettersOf_14 : decode cX12_readLettersOf 14 = .ok (.aload_n 0, 1) := by decide +kernel
theorem dX12_readLettersOf_15 : decode cX12_readLettersOf 15 = .ok (.getfield 113, 3) := by decide +kernel
theorem dX12_readLettersOf_18 : decode cX12_readLettersOf 18 = .ok (.if_icmp .ge 17, 3) := by decide +kernel
theorem dX12_readLettersOf_21 : decode cX12_readLettersOf 21 = .ok (.aload_n 0, 1) := by decide +kernel
theorem dX12_readLettersOf_22 : decode cX12_readLettersOf 22 = .ok (.getfield 19, 3) := by decide +kernel
theorem dX12_readLettersOf_25 : decode cX12_readLettersOf 25 = .ok (.iconst 1, 1) := by decide +kernel
theorem dX12_readLettersOf_26 : decode cX12_readLettersOf 26 = .ok (.iaload, 1) := by decide +kernel
theorem dX12_readLettersOf_27 : decode cX12_readLettersOf 27 = .ok (.iconst 0, 1) := by decide +kernel
theorem dX12_readLettersOf_28 : decode cX12_readLettersOf 28 = .ok (.iconst 3, 1) := by decide +kernel
theorem dX12_readLettersOf_29 : decode cX12_readLettersOf 29 = .ok (.invokestatic 84, 3) := by decide +kernel
theorem dX12_readLettersOf_32 : decode cX12_readLettersOf 32 = .ok (.ifCond .ne 5, 3) := by decide +kernel
theorem dX12_readLettersOf_35 : decode cX12_readLettersOf 35 = .ok (.iconst 0, 1) := by decide +kernel
theorem dX12_readLettersOf_36 : decode cX12_readLettersOf 36 = .ok (.ireturn, 1) := by decide +kernel
theorem dX12_readLettersOf_37 : decode cX12_readLettersOf 37 = .ok (.aload_n 0, 1) := by decide +kernel
theorem dX12_readLettersOf_38 : decode cX12_readLettersOf 38 = .ok (.getfield 28, 3) := by decide +kernel
theorem dX12_readLettersOf_41 : decode cX12_readLettersOf 41 = .ok (.aload_n 0, 1) := by decide +kernel
theorem dX12_readLettersOf_42 : decode cX12_readLettersOf 42 = .ok (.getfield 19, 3) := by decide +kernel
theorem dX12_readLettersOf_45 : decode cX12_readLettersOf 45 = .ok (.iconst 0, 1) := by decide +kernel
theorem dX12_readLettersOf_46 : decode cX12_readLettersOf 46 = .ok (.iaload, 1) := by decide +kernel
theorem dX12_readLettersOf_47 : decode cX12_readLettersOf 47 = .ok (.aload_n 0, 1) := by decide +kernel
theorem dX12_readLettersOf_48 : decode cX12_readLettersOf 48 = .ok (.getfield 19, 3) := by decide +kernel
theorem dX12_readLettersOf_51 : decode cX12_readLettersOf 51 = .ok (.iconst 1, 1) := by decide +kernel
theorem dX12_readLettersOf_52 : decode cX12_readLettersOf 52 = .ok (.iaload, 1) := by decide +kernel
theorem dX12_readLettersOf_53 : decode cX12_readLettersOf 53 = .ok (.iastore, 1) := by decide +kernel
theorem dX12_readLettersOf_54 : decode cX12_readLettersOf 54 = .ok (.iconst 1, 1) := by decide +kernel
theorem dX12_readLettersOf_55 : decode cX12_readLettersOf 55 = .ok (.ireturn, 1) := by decide +kernel
theorem dX12_readItem_0 : decode cX12_readItem 0 = .ok (.aload_n 0, 1) := by decide +kernel
theorem dX12_readItem_1 : decode cX12_readItem 1 = .ok (.aload_n 0, 1) := by decide +kernel
theorem dX12_readItem_2 : decode cX12_readItem 2 = .ok (.getfield 93, 3) := by decide +kernel
theorem dX12_readItem_5 : decode cX12_readItem 5 = .ok (.invokevirtual 96, 3) := by decide +kernel
theorem dX12_readItem_8 : decode cX12_readItem 8 = .ok (.istore_n 1, 1) := by decide +kernel
theorem dX12_readItem_9 : decode cX12_readItem 9 = .ok (.aload_n 0, 1) := by decide +kernel
theorem dX12_readItem_10 : decode cX12_readItem 10 = .ok (.dup, 1) := by decide +kernel
theorem dX12_readItem_11 : decode cX12_readItem 11 = .ok (.getfield 93, 3) := by decide +kernel
theorem dX12_readItem_14 : decode cX12_readItem 14 = .ok (.iconst 1, 1) := by decide +kernel
theorem dX12_readItem_15 : decode cX12_readItem 15 = .ok (.iadd, 1) := by decide +kernel
theorem dX12_readItem_16 : decode cX12_readItem 16 = .ok (.putfield 93, 3) := by decide +kernel
theorem dX12_readItem_19 : decode cX12_readItem 19 = .ok (.iload_n 1, 1) := by decide +kernel
theorem dX12_readItem_20 : decode cX12_readItem 20 = .ok (.lookupswitch 77 #[(97, 62), (100, 72), (108, 67), (110, 52), (112, 57)], 52) := by decide +kernel
theorem dX12_readItem_72 : decode cX12_readItem 72 = .ok (.aload_n 0, 1) := by decide +kernel
theorem dX12_readItem_73 : decode cX12_readItem 73 = .ok (.invokevirtual 116, 3) := by decide +kernel
theorem dX12_readItem_76 : decode cX12_readItem 76 = .ok (.ireturn, 1) := by decide +kernel
theorem dX12_readItem_77 : decode cX12_readItem 77 = .ok (.aload_n 0, 1) := by decide +kernel
theorem dX12_readItem_78 : decode cX12_readItem 78 = .ok (.invokevirtual 120, 3) := by decide +kernel
theorem dX12_readItem_81 : decode cX12_readItem 81 = .ok (.ireturn, 1) := by decide +kernel
theorem dX12_readItem_82 : decode cX12_readItem 82 = .ok (.aload_n 0, 1) := by decide +kernel
theorem dX12_readItem_83 : decode cX12_readItem 83 = .ok (.invokevirtual 123, 3) := by decide +kernel
theorem dX12_readItem_86 : decode cX12_readItem 86 = .ok (.ireturn, 1) := by decide +kernel
theorem dX12_readItem_87 : decode cX12_readItem 87 = .ok (.aload_n 0, 1) := by decide +kernel
theorem dX12_readItem_88 : decode cX12_readItem 88 = .ok (.invokevirtual 126, 3) := by decide +kernel
theorem dX12_readItem_91 : decode cX12_readItem 91 = .ok (.ireturn, 1) := by decide +kernel
theorem dX12_readItem_92 : decode cX12_readItem 92 = .ok (.aload_n 0, 1) := by decide +kernel
theorem dX12_readItem_93 : decode cX12_readItem 93 = .ok (.invokevirtual 129, 3) := by decide +kernel
theorem dX12_readItem_96 : decode cX12_readItem 96 = .ok (.ireturn, 1) := by decide +kernel
theorem dX12_readItem_97 : decode cX12_readItem 97 = .ok (.iconst 0, 1) := by decide +kernel
theorem dX12_readItem_98 : decode cX12_readItem 98 = .ok (.ireturn, 1) := by decide +kernel
theorem dX12_fault_0 : decode cX12_fault 0 = .ok (.aload_n 0, 1) := by decide +kernel
theorem dX12_fault_1 : decode cX12_fault 1 = .ok (.iconst 0, 1) := by decide +kernel
theorem dX12_fault_2 : decode cX12_fault 2 = .ok (.putfield 93, 3) := by decide +kernel
theorem dX12_fault_5 : decode cX12_fault 5 = .ok (.aload_n 0, 1) := by decide +kernel
theorem dX12_fault_6 : decode cX12_fault 6 = .ok (.bipush 30, 2) := by decide +kernel
theorem dX12_fault_8 : decode cX12_fault 8 = .ok (.putfield 107, 3) := by decide +kernel
theorem dX12_fault_11 : decode cX12_fault 11 = .ok (.aload_n 0, 1) := by decide +kernel
theorem dX12_fault_12 : decode cX12_fault 12 = .ok (.iconst 1, 1) := by decide +kernel
theorem dX12_fault_13 : decode cX12_fault 13 = .ok (.putfield 110, 3) := by decide +kernel
theorem dX12_fault_16 : decode cX12_fault 16 = .ok (.aload_n 0, 1) := by decide +kernel
theorem dX12_fault_17 : decode cX12_fault 17 = .ok (.iconst 0, 1) := by decide +kernel
theorem dX12_fault_18 : decode cX12_fault 18 = .ok (.putfield 113, 3) := by decide +kernel
theorem dX12_fault_21 : decode cX12_fault 21 = .ok (.aload_n 0, 1) := by decide +kernel
theorem dX12_fault_22 : decode cX12_fault 22 = .ok (.getfield 93, 3) := by decide +kernel
theorem dX12_fault_25 : decode cX12_fault 25 = .ok (.aload_n 0, 1) := by decide +kernel
theorem dX12_fault_26 : decode cX12_fault 26 = .ok (.getfield 88, 3) := by decide +kernel
theorem dX12_fault_29 : decode cX12_fault 29 = .ok (.if_icmp .ge 20, 3) := by decide +kernel
theorem dX12_fault_32 : decode cX12_fault 32 = .ok (.aload_n 0, 1) := by decide +kernel
theorem dX12_fault_33 : decode cX12_fault 33 = .ok (.getfield 93, 3) := by decide +kernel
theorem dX12_fault_36 : decode cX12_fault 36 = .ok (.istore_n 1, 1) := by decide +kernel
theorem dX12_fault_37 : decode cX12_fault 37 = .ok (.aload_n 0, 1) := by decide +kernel
theorem dX12_fault_38 : decode cX12_fault 38 = .ok (.invokevirtual 131, 3) := by decide +kernel
theorem dX12_fault_41 : decode cX12_fault 41 = .ok (.ifCond .ne 5, 3) := by decide +kernel
theorem dX12_fault_44 : decode cX12_fault 44 = .ok (.iload_n 1, 1) := by decide +kernel
theorem dX12_fault_45 : decode cX12_fault 45 = .ok (.ireturn, 1) := by decide +kernel
theorem dX12_fault_46 : decode cX12_fault 46 = .ok (.goto (-25), 3) := by decide +kernel
theorem dX12_fault_49 : decode cX12_fault 49 = .ok (.bipush (-4), 2) := by decide +kernel
theorem dX12_fault_51 : decode cX12_fault 51 = .ok (.ireturn, 1) := by decide +kernel
theorem dX12_calls_0 : decode cX12_calls 0 = .ok (.iconst 0, 1) := by decide +kernel
theorem dX12_calls_1 : decode cX12_calls 1 = .ok (.istore_n 1, 1) := by decide +kernel
theorem dX12_calls_2 : decode cX12_calls 2 = .ok (.iload_n 1, 1) := by decide +kernel
theorem dX12_calls_3 : decode cX12_calls 3 = .ok (.aload_n 0, 1) := by decide +kernel
theorem dX12_calls_4 : decode cX12_calls 4 = .ok (.getfield 113, 3) := by decide +kernel
theorem dX12_calls_7 : decode cX12_calls 7 = .ok (.if_icmp .ge 65, 3) := by decide +kernel
theorem dX12_calls_10 : decode cX12_calls 10 = .ok (.aload_n 0, 1) := by decide +kernel
theorem dX12_calls_11 : decode cX12_calls 11 = .ok (.getfield 25, 3) := by decide +kernel
theorem dX12_calls_14 : decode cX12_calls 14 = .ok (.iload_n 1, 1) := by decide +kernel
theorem dX12_calls_15 : decode cX12_calls 15 = .ok (.iaload, 1) := by decide +kernel
theorem dX12_calls_16 : decode cX12_calls 16 = .ok (.bipush (-4), 2) := by decide +kernel
theorem dX12_calls_18 : decode cX12_calls 18 = .ok (.if_icmp .ne 48, 3) := by decide +kernel
theorem dX12_calls_21 : decode cX12_calls 21 = .ok (.aload_n 0, 1) := by decide +kernel
theorem dX12_calls_22 : decode cX12_calls 22 = .ok (.getfield 25, 3) := by decide +kernel
theorem dX12_calls_25 : decode cX12_calls 25 = .ok (.iload_n 1, 1) := by decide +kernel
theorem dX12_calls_26 : decode cX12_calls 26 = .ok (.iload_n 1, 1) := by decide +kernel
theorem dX12_calls_27 : decode cX12_calls 27 = .ok (.iconst 1, 1) := by decide +kernel
theorem dX12_calls_28 : decode cX12_calls 28 = .ok (.iadd, 1) := by decide +kernel
theorem dX12_calls_29 : decode cX12_calls 29 = .ok (.aload_n 0, 1) := by decide +kernel
theorem dX12_calls_30 : decode cX12_calls 30 = .ok (.getfield 113, 3) := by decide +kernel
theorem dX12_calls_33 : decode cX12_calls 33 = .ok (.irem, 1) := by decide +kernel
theorem dX12_calls_34 : decode cX12_calls 34 = .ok (.iastore, 1) := by decide +kernel
theorem dX12_calls_35 : decode cX12_calls 35 = .ok (.aload_n 0, 1) := by decide +kernel
theorem dX12_calls_36 : decode cX12_calls 36 = .ok (.getfield 25, 3) := by decide +kernel
theorem dX12_calls_39 : decode cX12_calls 39 = .ok (.iconst 5, 1) := by decide +kernel
theorem dX12_calls_40 : decode cX12_calls 40 = .ok (.iload_n 1, 1) := by decide +kernel
theorem dX12_calls_41 : decode cX12_calls 41 = .ok (.iadd, 1) := by decide +kernel
theorem dX12_calls_42 : decode cX12_calls 42 = .ok (.aload_n 0, 1) := by decide +kernel
theorem dX12_calls_43 : decode cX12_calls 43 = .ok (.getfield 22, 3) := by decide +kernel
theorem dX12_calls_46 : decode cX12_calls 46 = .ok (.iconst 5, 1) := by decide +kernel
theorem dX12_calls_47 : decode cX12_calls 47 = .ok (.aload_n 0, 1) := by decide +kernel
theorem dX12_calls_48 : decode cX12_calls 48 = .ok (.getfield 25, 3) := by decide +kernel
theorem dX12_calls_51 : decode cX12_calls 51 = .ok (.iload_n 1, 1) := by decide +kernel
theorem dX12_calls_52 : decode cX12_calls 52 = .ok (.iaload, 1) := by decide +kernel
theorem dX12_calls_53 : decode cX12_calls 53 = .ok (.imul, 1) := by decide +kernel
theorem dX12_calls_54 : decode cX12_calls 54 = .ok (.iaload, 1) := by decide +kernel
theorem dX12_calls_55 : decode cX12_calls 55 = .ok (.iastore, 1) := by decide +kernel
theorem dX12_calls_56 : decode cX12_calls 56 = .ok (.aload_n 0, 1) := by decide +kernel
theorem dX12_calls_57 : decode cX12_calls 57 = .ok (.getfield 25, 3) := by decide +kernel
theorem dX12_calls_60 : decode cX12_calls 60 = .ok (.bipush 10, 2) := by decide +kernel
theorem dX12_calls_62 : decode cX12_calls 62 = .ok (.iload_n 1, 1) := by decide +kernel
theorem dX12_calls_63 : decode cX12_calls 63 = .ok (.iadd, 1) := by decide +kernel
theorem dX12_calls_64 : decode cX12_calls 64 = .ok (.iconst 1, 1) := by decide +kernel
theorem dX12_calls_65 : decode cX12_calls 65 = .ok (.iastore, 1) := by decide +kernel
theorem dX12_calls_66 : decode cX12_calls 66 = .ok (.iinc 1 1, 3) := by decide +kernel
theorem dX12_calls_69 : decode cX12_calls 69 = .ok (.goto (-67), 3) := by decide +kernel
theorem dX12_calls_72 : decode cX12_calls 72 = .ok (.return_, 1) := by decide +kernel
theorem dX12_lay_0 : decode cX12_lay 0 = .ok (.aload_n 0, 1) := by decide +kernel
theorem dX12_lay_1 : decode cX12_lay 1 = .ok (.invokevirtual 134, 3) := by decide +kernel
theorem dX12_lay_4 : decode cX12_lay 4 = .ok (.bipush (-4), 2) := by decide +kernel
theorem dX12_lay_6 : decode cX12_lay 6 = .ok (.if_icmp .ne 11, 3) := by decide +kernel
theorem dX12_lay_9 : decode cX12_lay 9 = .ok (.aload_n 0, 1) := by decide +kernel
theorem dX12_lay_10 : decode cX12_lay 10 = .ok (.getfield 113, 3) := by decide +kernel
theorem dX12_lay_13 : decode cX12_lay 13 = .ok (.iconst 2, 1) := by decide +kernel
theorem dX12_lay_14 : decode cX12_lay 14 = .ok (.if_icmp .ge 6, 3) := by decide +kernel
theorem dX12_lay_17 : decode cX12_lay 17 = .ok (.bipush (-2), 2) := by decide +kernel
theorem dX12_lay_19 : decode cX12_lay 19 = .ok (.ireturn, 1) := by decide +kernel
theorem dX12_lay_20 : decode cX12_lay 20 = .ok (.aload_n 0, 1) := by decide +kernel
theorem dX12_lay_21 : decode cX12_lay 21 = .ok (.invokevirtual 138, 3) := by decide +kernel
theorem dX12_lay_24 : decode cX12_lay 24 = .ok (.iconst 0, 1) := by decide +kernel
theorem dX12_lay_25 : decode cX12_lay 25 = .ok (.istore_n 1, 1) := by decide +kernel
theorem dX12_lay_26 : decode cX12_lay 26 = .ok (.iload_n 1, 1) := by decide +kernel
theorem dX12_lay_27 : decode cX12_lay 27 = .ok (.aload_n 0, 1) := by decide +kernel
theorem dX12_lay_28 : decode cX12_lay 28 = .ok (.getfield 113, 3) := by decide +kernel
theorem dX12_lay_31 : decode cX12_lay 31 = .ok (.if_icmp .ge 42, 3) := by decide +kernel
theorem dX12_lay_34 : decode cX12_lay 34 = .ok (.aload_n 0, 1) := by decide +kernel
theorem dX12_lay_35 : decode cX12_lay 35 = .ok (.getfield 22, 3) := by decide +kernel
theorem dX12_lay_38 : decode cX12_lay 38 = .ok (.iconst 5, 1) := by decide +kernel
theorem dX12_lay_39 : decode cX12_lay 39 = .ok (.iload_n 1, 1) := by decide +kernel
theorem dX12_lay_40 : decode cX12_lay 40 = .ok (.imul, 1) := by decide +kernel
theorem dX12_lay_41 : decode cX12_lay 41 = .ok (.iaload, 1) := by decide +kernel
theorem dX12_lay_42 : decode cX12_lay 42 = .ok (.aload_n 0, 1) := by decide +kernel
theorem dX12_lay_43 : decode cX12_lay 43 = .ok (.getfield 107, 3) := by decide +kernel
theorem dX12_lay_46 : decode cX12_lay 46 = .ok (.if_icmp .gt 18, 3) := by decide +kernel
theorem dX12_lay_49 : decode cX12_lay 49 = .ok (.aload_n 0, 1) := by decide +kernel
theorem dX12_lay_50 : decode cX12_lay 50 = .ok (.getfield 25, 3) := by decide +kernel
theorem dX12_lay_53 : decode cX12_lay 53 = .ok (.iconst 5, 1) := by decide +kernel
theorem dX12_lay_54 : decode cX12_lay 54 = .ok (.iload_n 1, 1) := by decide +kernel
theorem dX12_lay_55 : decode cX12_lay 55 = .ok (.iadd, 1) := by decide +kernel
theorem dX12_lay_56 : decode cX12_lay 56 = .ok (.iaload, 1) := by decide +kernel
theorem dX12_lay_57 : decode cX12_lay 57 = .ok (.aload_n 0, 1) := by decide +kernel
theorem dX12_lay_58 : decode cX12_lay 58 = .ok (.getfield 107, 3) := by decide +kernel
theorem dX12_lay_61 : decode cX12_lay 61 = .ok (.if_icmp .le 6, 3) := by decide +kernel
theorem dX12_lay_64 : decode cX12_lay 64 = .ok (.bipush (-2), 2) := by decide +kernel
theorem dX12_lay_66 : decode cX12_lay 66 = .ok (.ireturn, 1) := by decide +kernel
theorem dX12_lay_67 : decode cX12_lay 67 = .ok (.iinc 1 1, 3) := by decide +kernel
theorem dX12_lay_70 : decode cX12_lay 70 = .ok (.goto (-44), 3) := by decide +kernel
theorem dX12_lay_73 : decode cX12_lay 73 = .ok (.aload_n 0, 1) := by decide +kernel
theorem dX12_lay_74 : decode cX12_lay 74 = .ok (.aload_n 0, 1) := by decide +kernel
theorem dX12_lay_75 : decode cX12_lay 75 = .ok (.getfield 107, 3) := by decide +kernel
theorem dX12_lay_78 : decode cX12_lay 78 = .ok (.putfield 68, 3) := by decide +kernel
theorem dX12_lay_81 : decode cX12_lay 81 = .ok (.aload_n 0, 1) := by decide +kernel
theorem dX12_lay_82 : decode cX12_lay 82 = .ok (.aload_n 0, 1) := by decide +kernel
theorem dX12_lay_83 : decode cX12_lay 83 = .ok (.getfield 110, 3) := by decide +kernel
theorem dX12_lay_86 : decode cX12_lay 86 = .ok (.putfield 72, 3) := by decide +kernel
theorem dX12_lay_89 : decode cX12_lay 89 = .ok (.aload_n 0, 1) := by decide +kernel
theorem dX12_lay_90 : decode cX12_lay 90 = .ok (.aload_n 0, 1) := by decide +kernel
theorem dX12_lay_91 : decode cX12_lay 91 = .ok (.getfield 113, 3) := by decide +kernel
theorem dX12_lay_94 : decode cX12_lay 94 = .ok (.putfield 75, 3) := by decide +kernel
theorem dX12_lay_97 : decode cX12_lay 97 = .ok (.iconst 0, 1) := by decide +kernel
theorem dX12_lay_98 : decode cX12_lay 98 = .ok (.istore_n 1, 1) := by decide +kernel
theorem dX12_lay_99 : decode cX12_lay 99 = .ok (.iload_n 1, 1) := by decide +kernel
theorem dX12_lay_100 : decode cX12_lay 100 = .ok (.bipush 25, 2) := by decide +kernel
theorem dX12_lay_102 : decode cX12_lay 102 = .ok (.if_icmp .ge 21, 3) := by decide +kernel
theorem dX12_lay_105 : decode cX12_lay 105 = .ok (.aload_n 0, 1) := by decide +kernel
theorem dX12_lay_106 : decode cX12_lay 106 = .ok (.getfield 7, 3) := by decide +kernel
theorem dX12_lay_109 : decode cX12_lay 109 = .ok (.iload_n 1, 1) := by decide +kernel
theorem dX12_lay_110 : decode cX12_lay 110 = .ok (.aload_n 0, 1) := by decide +kernel
theorem dX12_lay_111 : decode cX12_lay 111 = .ok (.getfield 22, 3) := by decide +kernel
theorem dX12_lay_114 : decode cX12_lay 114 = .ok (.iload_n 1, 1) := by decide +kernel
theorem dX12_lay_115 : decode cX12_lay 115 = .ok (.iaload, 1) := by decide +kernel
theorem dX12_lay_116 : decode cX12_lay 116 = .ok (.iastore, 1) := by decide +kernel
theorem dX12_lay_117 : decode cX12_lay 117 = .ok (.iinc 1 1, 3) := by decide +kernel
theorem dX12_lay_120 : decode cX12_lay 120 = .ok (.goto (-21), 3) := by decide +kernel
theorem dX12_lay_123 : decode cX12_lay 123 = .ok (.iconst 0, 1) := by decide +kernel
theorem dX12_lay_124 : decode cX12_lay 124 = .ok (.istore_n 1, 1) := by decide +kernel
theorem dX12_lay_125 : decode cX12_lay 125 = .ok (.iload_n 1, 1) := by decide +kernel
theorem dX12_lay_126 : decode cX12_lay 126 = .ok (.bipush 15, 2) := by decide +kernel
theorem dX12_lay_128 : decode cX12_lay 128 = .ok (.if_icmp .ge 21, 3) := by decide +kernel
theorem dX12_lay_131 : decode cX12_lay 131 = .ok (.aload_n 0, 1) := by decide +kernel
theorem dX12_lay_132 : decode cX12_lay 132 = .ok (.getfield 13, 3) := by decide +kernel
theorem dX12_lay_135 : decode cX12_lay 135 = .ok (.iload_n 1, 1) := by decide +kernel
theorem dX12_lay_136 : decode cX12_lay 136 = .ok (.aload_n 0, 1) := by decide +kernel
theorem dX12_lay_137 : decode cX12_lay 137 = .ok (.getfield 25, 3) := by decide +kernel
theorem dX12_lay_140 : decode cX12_lay 140 = .ok (.iload_n 1, 1) := by decide +kernel
theorem dX12_lay_141 : decode cX12_lay 141 = .ok (.iaload, 1) := by decide +kernel
theorem dX12_lay_142 : decode cX12_lay 142 = .ok (.iastore, 1) := by decide +kernel
theorem dX12_lay_143 : decode cX12_lay 143 = .ok (.iinc 1 1, 3) := by decide +kernel
theorem dX12_lay_146 : decode cX12_lay 146 = .ok (.goto (-21), 3) := by decide +kernel
theorem dX12_lay_149 : decode cX12_lay 149 = .ok (.iconst 0, 1) := by decide +kernel
theorem dX12_lay_150 : decode cX12_lay 150 = .ok (.istore_n 1, 1) := by decide +kernel
theorem dX12_lay_151 : decode cX12_lay 151 = .ok (.iload_n 1, 1) := by decide +kernel
theorem dX12_lay_152 : decode cX12_lay 152 = .ok (.iconst 5, 1) := by decide +kernel
theorem dX12_lay_153 : decode cX12_lay 153 = .ok (.if_icmp .ge 36, 3) := by decide +kernel
theorem dX12_lay_156 : decode cX12_lay 156 = .ok (.aload_n 0, 1) := by decide +kernel
theorem dX12_lay_157 : decode cX12_lay 157 = .ok (.getfield 13, 3) := by decide +kernel
theorem dX12_lay_160 : decode cX12_lay 160 = .ok (.bipush 15, 2) := by decide +kernel
theorem dX12_lay_162 : decode cX12_lay 162 = .ok (.iload_n 1, 1) := by decide +kernel
theorem dX12_lay_163 : decode cX12_lay 163 = .ok (.iadd, 1) := by decide +kernel
theorem dX12_lay_164 : decode cX12_lay 164 = .ok (.iload_n 1, 1) := by decide +kernel
theorem dX12_lay_165 : decode cX12_lay 165 = .ok (.aload_n 0, 1) := by decide +kernel
theorem dX12_lay_166 : decode cX12_lay 166 = .ok (.getfield 75, 3) := by decide +kernel
theorem dX12_lay_169 : decode cX12_lay 169 = .ok (.if_icmp .ge 12, 3) := by decide +kernel
theorem dX12_lay_172 : decode cX12_lay 172 = .ok (.aload_n 0, 1) := by decide +kernel
theorem dX12_lay_173 : decode cX12_lay 173 = .ok (.getfield 28, 3) := by decide +kernel
theorem dX12_lay_176 : decode cX12_lay 176 = .ok (.iload_n 1, 1) := by decide +kernel
theorem dX12_lay_177 : decode cX12_lay 177 = .ok (.iaload, 1) := by decide +kernel
theorem dX12_lay_178 : decode cX12_lay 178 = .ok (.goto 4, 3) := by decide +kernel
theorem dX12_lay_181 : decode cX12_lay 181 = .ok (.iconst 0, 1) := by decide +kernel
theorem dX12_lay_182 : decode cX12_lay 182 = .ok (.iastore, 1) := by decide +kernel
theorem dX12_lay_183 : decode cX12_lay 183 = .ok (.iinc 1 1, 3) := by decide +kernel
theorem dX12_lay_186 : decode cX12_lay 186 = .ok (.goto (-35), 3) := by decide +kernel
theorem dX12_lay_189 : decode cX12_lay 189 = .ok (.aload_n 0, 1) := by decide +kernel
theorem dX12_lay_190 : decode cX12_lay 190 = .ok (.iconst 0, 1) := by decide +kernel
theorem dX12_lay_191 : decode cX12_lay 191 = .ok (.putfield 141, 3) := by decide +kernel
theorem dX12_lay_194 : decode cX12_lay 194 = .ok (.aload_n 0, 1) := by decide +kernel
theorem dX12_lay_195 : decode cX12_lay 195 = .ok (.iconst 0, 1) := by decide +kernel
theorem dX12_lay_196 : decode cX12_lay 196 = .ok (.putfield 144, 3) := by decide +kernel
theorem dX12_lay_199 : decode cX12_lay 199 = .ok (.aload_n 0, 1) := by decide +kernel
theorem dX12_lay_200 : decode cX12_lay 200 = .ok (.iconst 0, 1) := by decide +kernel
theorem dX12_lay_201 : decode cX12_lay 201 = .ok (.putfield 147, 3) := by decide +kernel
theorem dX12_lay_204 : decode cX12_lay 204 = .ok (.aload_n 0, 1) := by decide +kernel
theorem dX12_lay_205 : decode cX12_lay 205 = .ok (.getfield 75, 3) := by decide +kernel
theorem dX12_lay_208 : decode cX12_lay 208 = .ok (.ireturn, 1) := by decide +kernel
theorem dX12_player_0 : decode cX12_player 0 = .ok (.aload_n 0, 1) := by decide +kernel
theorem dX12_player_1 : decode cX12_player 1 = .ok (.iload_n 1, 1) := by decide +kernel
theorem dX12_player_2 : decode cX12_player 2 = .ok (.invokevirtual 150, 3) := by decide +kernel
theorem dX12_player_5 : decode cX12_player 5 = .ok (.ifCond .eq 12, 3) := by decide +kernel
theorem dX12_player_8 : decode cX12_player 8 = .ok (.iload_n 2, 1) := by decide +kernel
theorem dX12_player_9 : decode cX12_player 9 = .ok (.iconst 0, 1) := by decide +kernel
theorem dX12_player_10 : decode cX12_player 10 = .ok (.iconst 5, 1) := by decide +kernel
theorem dX12_player_11 : decode cX12_player 11 = .ok (.invokestatic 84, 3) := by decide +kernel
theorem dX12_player_14 : decode cX12_player 14 = .ok (.ifCond .ne 5, 3) := by decide +kernel
theorem dX12_player_17 : decode cX12_player 17 = .ok (.iconst (-1), 1) := by decide +kernel
theorem dX12_player_18 : decode cX12_player 18 = .ok (.ireturn, 1) := by decide +kernel
theorem dX12_player_19 : decode cX12_player 19 = .ok (.iload_n 2, 1) := by decide +kernel
theorem dX12_player_20 : decode cX12_player 20 = .ok (.iconst 5, 1) := by decide +kernel
theorem dX12_player_21 : decode cX12_player 21 = .ok (.if_icmp .ge 16, 3) := by decide +kernel
theorem dX12_player_24 : decode cX12_player 24 = .ok (.aload_n 0, 1) := by decide +kernel
theorem dX12_player_25 : decode cX12_player 25 = .ok (.getfield 7, 3) := by decide +kernel
theorem dX12_player_28 : decode cX12_player 28 = .ok (.iconst 5, 1) := by decide +kernel
theorem dX12_player_29 : decode cX12_player 29 = .ok (.iload_n 1, 1) := by decide +kernel
theorem dX12_player_30 : decode cX12_player 30 = .ok (.imul, 1) := by decide +kernel
theorem dX12_player_31 : decode cX12_player 31 = .ok (.iload_n 2, 1) := by decide +kernel
theorem dX12_player_32 : decode cX12_player 32 = .ok (.iadd, 1) := by decide +kernel
theorem dX12_player_33 : decode cX12_player 33 = .ok (.iaload, 1) := by decide +kernel
theorem dX12_player_34 : decode cX12_player 34 = .ok (.goto 12, 3) := by decide +kernel
theorem dX12_player_37 : decode cX12_player 37 = .ok (.aload_n 0, 1) := by decide +kernel
theorem dX12_player_38 : decode cX12_player 38 = .ok (.getfield 13, 3) := by decide +kernel
theorem dX12_player_41 : decode cX12_player 41 = .ok (.bipush 15, 2) := by decide +kernel
theorem dX12_player_43 : decode cX12_player 43 = .ok (.iload_n 1, 1) := by decide +kernel
theorem dX12_player_44 : decode cX12_player 44 = .ok (.iadd, 1) := by decide +kernel
theorem dX12_player_45 : decode cX12_player 45 = .ok (.iaload, 1) := by decide +kernel
theorem dX12_player_46 : decode cX12_player 46 = .ok (.ireturn, 1) := by decide +kernel
theorem dX12_beatsOf_0 : decode cX12_beatsOf 0 = .ok (.aload_n 0, 1) := by decide +kernel
theorem dX12_beatsOf_1 : decode cX12_beatsOf 1 = .ok (.getfield 7, 3) := by decide +kernel
theorem dX12_beatsOf_4 : decode cX12_beatsOf 4 = .ok (.iconst 5, 1) := by decide +kernel
theorem dX12_beatsOf_5 : decode cX12_beatsOf 5 = .ok (.iload_n 1, 1) := by decide +kernel
theorem dX12_beatsOf_6 : decode cX12_beatsOf 6 = .ok (.imul, 1) := by decide +kernel
theorem dX12_beatsOf_7 : decode cX12_beatsOf 7 = .ok (.iconst 1, 1) := by decide +kernel
theorem dX12_beatsOf_8 : decode cX12_beatsOf 8 = .ok (.iadd, 1) := by decide +kernel
theorem dX12_beatsOf_9 : decode cX12_beatsOf 9 = .ok (.iaload, 1) := by decide +kernel
theorem dX12_beatsOf_10 : decode cX12_beatsOf 10 = .ok (.istore 4, 2) := by decide +kernel
theorem dX12_beatsOf_12 : decode cX12_beatsOf 12 = .ok (.iload_n 2, 1) := by decide +kernel
theorem dX12_beatsOf_13 : decode cX12_beatsOf 13 = .ok (.aload_n 0, 1) := by decide +kernel
theorem dX12_beatsOf_14 : decode cX12_beatsOf 14 = .ok (.getfield 7, 3) := by decide +kernel
theorem dX12_beatsOf_17 : decode cX12_beatsOf 17 = .ok (.iconst 5, 1) := by decide +kernel
theorem dX12_beatsOf_18 : decode cX12_beatsOf 18 = .ok (.iload_n 1, 1) := by decide +kernel
theorem dX12_beatsOf_19 : decode cX12_beatsOf 19 = .ok (.imul, 1) := by decide +kernel
theorem dX12_beatsOf_20 : decode cX12_beatsOf 20 = .ok (.iaload, 1) := by decide +kernel
theorem dX12_beatsOf_21 : decode cX12_beatsOf 21 = .ok (.isub, 1) := by decide +kernel
theorem dX12_beatsOf_22 : decode cX12_beatsOf 22 = .ok (.invokestatic 153, 3) := by decide +kernel
theorem dX12_beatsOf_25 : decode cX12_beatsOf 25 = .ok (.iload 4, 2) := by decide +kernel
theorem dX12_beatsOf_27 : decode cX12_beatsOf 27 = .ok (.iadd, 1) := by decide +kernel
theorem dX12_beatsOf_28 : decode cX12_beatsOf 28 = .ok (.iconst 1, 1) := by decide +kernel
theorem dX12_beatsOf_29 : decode cX12_beatsOf 29 = .ok (.isub, 1) := by decide +kernel
theorem dX12_beatsOf_30 : decode cX12_beatsOf 30 = .ok (.iload 4, 2) := by decide +kernel
theorem dX12_beatsOf_32 : decode cX12_beatsOf 32 = .ok (.idiv, 1) := by decide +kernel
theorem dX12_beatsOf_33 : decode cX12_beatsOf 33 = .ok (.istore 5, 2) := by decide +kernel
theorem dX12_beatsOf_35 : decode cX12_beatsOf 35 = .ok (.iload 5, 2) := by decide +kernel
theorem dX12_beatsOf_37 : decode cX12_beatsOf 37 = .ok (.iload_n 3, 1) := by decide +kernel
theorem dX12_beatsOf_38 : decode cX12_beatsOf 38 = .ok (.if_icmp .le 8, 3) := by decide +kernel
theorem dX12_beatsOf_41 : decode cX12_beatsOf 41 = .ok (.iload 5, 2) := by decide +kernel
theorem dX12_beatsOf_43 : decode cX12_beatsOf 43 = .ok (.goto 4, 3) := by decide +kernel
theorem dX12_beatsOf_46 : decode cX12_beatsOf 46 = .ok (.iload_n 3, 1) := by decide +kernel
theorem dX12_beatsOf_47 : decode cX12_beatsOf 47 = .ok (.ireturn, 1) := by decide +kernel
theorem dX12_called_0 : decode cX12_called 0 = .ok (.aload_n 0, 1) := by decide +kernel
theorem dX12_called_1 : decode cX12_called 1 = .ok (.iload_n 1, 1) := by decide +kernel
theorem dX12_called_2 : decode cX12_called 2 = .ok (.invokevirtual 150, 3) := by decide +kernel
theorem dX12_called_5 : decode cX12_called 5 = .ok (.ifCond .eq 12, 3) := by decide +kernel
theorem dX12_called_8 : decode cX12_called 8 = .ok (.iload_n 2, 1) := by decide +kernel
theorem dX12_called_9 : decode cX12_called 9 = .ok (.iconst 0, 1) := by decide +kernel
theorem dX12_called_10 : decode cX12_called 10 = .ok (.iconst 3, 1) := by decide +kernel
theorem dX12_called_11 : decode cX12_called 11 = .ok (.invokestatic 84, 3) := by decide +kernel
theorem dX12_called_14 : decode cX12_called 14 = .ok (.ifCond .ne 5, 3) := by decide +kernel
theorem dX12_called_17 : decode cX12_called 17 = .ok (.iconst (-1), 1) := by decide +kernel
theorem dX12_called_18 : decode cX12_called 18 = .ok (.ireturn, 1) := by decide +kernel
theorem dX12_called_19 : decode cX12_called 19 = .ok (.iload_n 2, 1) := by decide +kernel
theorem dX12_called_20 : decode cX12_called 20 = .ok (.iconst 3, 1) := by decide +kernel
theorem dX12_called_21 : decode cX12_called 21 = .ok (.if_icmp .ge 16, 3) := by decide +kernel
theorem dX12_called_24 : decode cX12_called 24 = .ok (.aload_n 0, 1) := by decide +kernel
theorem dX12_called_25 : decode cX12_called 25 = .ok (.getfield 13, 3) := by decide +kernel
theorem dX12_called_28 : decode cX12_called 28 = .ok (.iconst 5, 1) := by decide +kernel
theorem dX12_called_29 : decode cX12_called 29 = .ok (.iload_n 2, 1) := by decide +kernel
theorem dX12_called_30 : decode cX12_called 30 = .ok (.imul, 1) := by decide +kernel
theorem dX12_called_31 : decode cX12_called 31 = .ok (.iload_n 1, 1) := by decide +kernel
theorem dX12_called_32 : decode cX12_called 32 = .ok (.iadd, 1) := by decide +kernel
theorem dX12_called_33 : decode cX12_called 33 = .ok (.iaload, 1) := by decide +kernel
theorem dX12_called_34 : decode cX12_called 34 = .ok (.goto 30, 3) := by decide +kernel
theorem dX12_called_37 : decode cX12_called 37 = .ok (.aload_n 0, 1) := by decide +kernel
theorem dX12_called_38 : decode cX12_called 38 = .ok (.aload_n 0, 1) := by decide +kernel
theorem dX12_called_39 : decode cX12_called 39 = .ok (.getfield 13, 3) := by decide +kernel
theorem dX12_called_42 : decode cX12_called 42 = .ok (.iload_n 1, 1) := by decide +kernel
theorem dX12_called_43 : decode cX12_called 43 = .ok (.iaload, 1) := by decide +kernel
theorem dX12_called_44 : decode cX12_called 44 = .ok (.aload_n 0, 1) := by decide +kernel
theorem dX12_called_45 : decode cX12_called 45 = .ok (.getfield 13, 3) := by decide +kernel
theorem dX12_called_48 : decode cX12_called 48 = .ok (.iconst 5, 1) := by decide +kernel
theorem dX12_called_49 : decode cX12_called 49 = .ok (.iload_n 1, 1) := by decide +kernel
theorem dX12_called_50 : decode cX12_called 50 = .ok (.iadd, 1) := by decide +kernel
theorem dX12_called_51 : decode cX12_called 51 = .ok (.iaload, 1) := by decide +kernel
theorem dX12_called_52 : decode cX12_called 52 = .ok (.aload_n 0, 1) := by decide +kernel
theorem dX12_called_53 : decode cX12_called 53 = .ok (.getfield 13, 3) := by decide +kernel
theorem dX12_called_56 : decode cX12_called 56 = .ok (.bipush 10, 2) := by decide +kernel
theorem dX12_called_58 : decode cX12_called 58 = .ok (.iload_n 1, 1) := by decide +kernel
theorem dX12_called_59 : decode cX12_called 59 = .ok (.iadd, 1) := by decide +kernel
theorem dX12_called_60 : decode cX12_called 60 = .ok (.iaload, 1) := by decide +kernel
theorem dX12_called_61 : decode cX12_called 61 = .ok (.invokevirtual 156, 3) := by decide +kernel
theorem dX12_called_64 : decode cX12_called 64 = .ok (.ireturn, 1) := by decide +kernel
theorem dX12_standsOf_0 : decode cX12_standsOf 0 = .ok (.aload_n 0, 1) := by decide +kernel
theorem dX12_standsOf_1 : decode cX12_standsOf 1 = .ok (.getfield 7, 3) := by decide +kernel
theorem dX12_standsOf_4 : decode cX12_standsOf 4 = .ok (.iconst 5, 1) := by decide +kernel
theorem dX12_standsOf_5 : decode cX12_standsOf 5 = .ok (.iload_n 1, 1) := by decide +kernel
theorem dX12_standsOf_6 : decode cX12_standsOf 6 = .ok (.imul, 1) := by decide +kernel
theorem dX12_standsOf_7 : decode cX12_standsOf 7 = .ok (.iaload, 1) := by decide +kernel
theorem dX12_standsOf_8 : decode cX12_standsOf 8 = .ok (.istore 5, 2) := by decide +kernel
theorem dX12_standsOf_10 : decode cX12_standsOf 10 = .ok (.iload 5, 2) := by decide +kernel
theorem dX12_standsOf_12 : decode cX12_standsOf 12 = .ok (.iload_n 3, 1) := by decide +kernel
theorem dX12_standsOf_13 : decode cX12_standsOf 13 = .ok (.if_icmp .lt 7, 3) := by decide +kernel
theorem dX12_standsOf_16 : decode cX12_standsOf 16 = .ok (.iconst 1, 1) := by decide +kernel
theorem dX12_standsOf_17 : decode cX12_standsOf 17 = .ok (.goto 4, 3) := by decide +kernel
theorem dX12_standsOf_20 : decode cX12_standsOf 20 = .ok (.iconst (-1), 1) := by decide +kernel
theorem dX12_standsOf_21 : decode cX12_standsOf 21 = .ok (.istore 6, 2) := by decide +kernel
theorem dX12_standsOf_23 : decode cX12_standsOf 23 = .ok (.aload_n 0, 1) := by decide +kernel
theorem dX12_standsOf_24 : decode cX12_standsOf 24 = .ok (.getfield 7, 3) := by decide +kernel
theorem dX12_standsOf_27 : decode cX12_standsOf 27 = .ok (.iconst 5, 1) := by decide +kernel
theorem dX12_standsOf_28 : decode cX12_standsOf 28 = .ok (.iload_n 1, 1) := by decide +kernel
theorem dX12_standsOf_29 : decode cX12_standsOf 29 = .ok (.imul, 1) := by decide +kernel
theorem dX12_standsOf_30 : decode cX12_standsOf 30 = .ok (.iconst 1, 1) := by decide +kernel
theorem dX12_standsOf_31 : decode cX12_standsOf 31 = .ok (.iadd, 1) := by decide +kernel
theorem dX12_standsOf_32 : decode cX12_standsOf 32 = .ok (.iaload, 1) := by decide +kernel
theorem dX12_standsOf_33 : decode cX12_standsOf 33 = .ok (.istore 7, 2) := by decide +kernel
theorem dX12_standsOf_35 : decode cX12_standsOf 35 = .ok (.iload_n 2, 1) := by decide +kernel
theorem dX12_standsOf_36 : decode cX12_standsOf 36 = .ok (.iconst 2, 1) := by decide +kernel
theorem dX12_standsOf_37 : decode cX12_standsOf 37 = .ok (.if_icmp .ne 43, 3) := by decide +kernel
theorem dX12_standsOf_40 : decode cX12_standsOf 40 = .ok (.iload 5, 2) := by decide +kernel
theorem dX12_standsOf_42 : decode cX12_standsOf 42 = .ok (.iload_n 3, 1) := by decide +kernel
theorem dX12_standsOf_43 : decode cX12_standsOf 43 = .ok (.isub, 1) := by decide +kernel
theorem dX12_standsOf_44 : decode cX12_standsOf 44 = .ok (.invokestatic 153, 3) := by decide +kernel
theorem dX12_standsOf_47 : decode cX12_standsOf 47 = .ok (.istore 8, 2) := by decide +kernel
theorem dX12_standsOf_49 : decode cX12_standsOf 49 = .ok (.iload 7, 2) := by decide +kernel
theorem dX12_standsOf_51 : decode cX12_standsOf 51 = .ok (.iload 4, 2) := by decide +kernel
theorem dX12_standsOf_53 : decode cX12_standsOf 53 = .ok (.imul, 1) := by decide +kernel
theorem dX12_standsOf_54 : decode cX12_standsOf 54 = .ok (.iload 8, 2) := by decide +kernel
theorem dX12_standsOf_56 : decode cX12_standsOf 56 = .ok (.if_icmp .ge 11, 3) := by decide +kernel
theorem dX12_standsOf_59 : decode cX12_standsOf 59 = .ok (.iload 7, 2) := by decide +kernel
theorem dX12_standsOf_61 : decode cX12_standsOf 61 = .ok (.iload 4, 2) := by decide +kernel
theorem dX12_standsOf_63 : decode cX12_standsOf 63 = .ok (.imul, 1) := by decide +kernel
theorem dX12_standsOf_64 : decode cX12_standsOf 64 = .ok (.goto 5, 3) := by decide +kernel
theorem dX12_standsOf_67 : decode cX12_standsOf 67 = .ok (.iload 8, 2) := by decide +kernel
theorem dX12_standsOf_69 : decode cX12_standsOf 69 = .ok (.istore 9, 2) := by decide +kernel
theorem dX12_standsOf_71 : decode cX12_standsOf 71 = .ok (.iload 5, 2) := by decide +kernel
theorem dX12_standsOf_73 : decode cX12_standsOf 73 = .ok (.iload 6, 2) := by decide +kernel
theorem dX12_standsOf_75 : decode cX12_standsOf 75 = .ok (.iload 9, 2) := by decide +kernel
theorem dX12_standsOf_77 : decode cX12_standsOf 77 = .ok (.imul, 1) := by decide +kernel
theorem dX12_standsOf_78 : decode cX12_standsOf 78 = .ok (.isub, 1) := by decide +kernel
theorem dX12_standsOf_79 : decode cX12_standsOf 79 = .ok (.ireturn, 1) := by decide +kernel
theorem dX12_standsOf_80 : decode cX12_standsOf 80 = .ok (.iload 7, 2) := by decide +kernel
theorem dX12_standsOf_82 : decode cX12_standsOf 82 = .ok (.iload_n 2, 1) := by decide +kernel
theorem dX12_standsOf_83 : decode cX12_standsOf 83 = .ok (.iconst 1, 1) := by decide +kernel
theorem dX12_standsOf_84 : decode cX12_standsOf 84 = .ok (.if_icmp .ne 10, 3) := by decide +kernel
theorem dX12_standsOf_87 : decode cX12_standsOf 87 = .ok (.iload 4, 2) := by decide +kernel
theorem dX12_standsOf_89 : decode cX12_standsOf 89 = .ok (.iconst 1, 1) := by decide +kernel
theorem dX12_standsOf_90 : decode cX12_standsOf 90 = .ok (.isub, 1) := by decide +kernel
theorem dX12_standsOf_91 : decode cX12_standsOf 91 = .ok (.goto 5, 3) := by decide +kernel
theorem dX12_standsOf_94 : decode cX12_standsOf 94 = .ok (.iload 4, 2) := by decide +kernel
theorem dX12_standsOf_96 : decode cX12_standsOf 96 = .ok (.imul, 1) := by decide +kernel
theorem dX12_standsOf_97 : decode cX12_standsOf 97 = .ok (.aload_n 0, 1) := by decide +kernel
theorem dX12_standsOf_98 : decode cX12_standsOf 98 = .ok (.getfield 72, 3) := by decide +kernel
theorem dX12_standsOf_101 : decode cX12_standsOf 101 = .ok (.iadd, 1) := by decide +kernel
theorem dX12_standsOf_102 : decode cX12_standsOf 102 = .ok (.istore 8, 2) := by decide +kernel
theorem dX12_standsOf_104 : decode cX12_standsOf 104 = .ok (.iload 5, 2) := by decide +kernel
theorem dX12_standsOf_106 : decode cX12_standsOf 106 = .ok (.iload 6, 2) := by decide +kernel
theorem dX12_standsOf_108 : decode cX12_standsOf 108 = .ok (.iload 8, 2) := by decide +kernel
theorem dX12_standsOf_110 : decode cX12_standsOf 110 = .ok (.imul, 1) := by decide +kernel
theorem dX12_standsOf_111 : decode cX12_standsOf 111 = .ok (.iadd, 1) := by decide +kernel
theorem dX12_standsOf_112 : decode cX12_standsOf 112 = .ok (.istore 9, 2) := by decide +kernel
theorem dX12_standsOf_114 : decode cX12_standsOf 114 = .ok (.iload 9, 2) := by decide +kernel
theorem dX12_standsOf_116 : decode cX12_standsOf 116 = .ok (.ifCond .ge 7, 3) := by decide +kernel
theorem dX12_standsOf_119 : decode cX12_standsOf 119 = .ok (.iconst 0, 1) := by decide +kernel
theorem dX12_standsOf_120 : decode cX12_standsOf 120 = .ok (.goto 21, 3) := by decide +kernel
theorem dX12_standsOf_123 : decode cX12_standsOf 123 = .ok (.iload 9, 2) := by decide +kernel
theorem dX12_standsOf_125 : decode cX12_standsOf 125 = .ok (.aload_n 0, 1) := by decide +kernel
theorem dX12_standsOf_126 : decode cX12_standsOf 126 = .ok (.getfield 68, 3) := by decide +kernel
theorem dX12_standsOf_129 : decode cX12_standsOf 129 = .ok (.if_icmp .le 10, 3) := by decide +kernel
theorem dX12_standsOf_132 : decode cX12_standsOf 132 = .ok (.aload_n 0, 1) := by decide +kernel
theorem dX12_standsOf_133 : decode cX12_standsOf 133 = .ok (.getfield 68, 3) := by decide +kernel
theorem dX12_standsOf_136 : decode cX12_standsOf 136 = .ok (.goto 5, 3) := by decide +kernel
theorem dX12_standsOf_139 : decode cX12_standsOf 139 = .ok (.iload 9, 2) := by decide +kernel
theorem dX12_standsOf_141 : decode cX12_standsOf 141 = .ok (.ireturn, 1) := by decide +kernel
theorem dX12_hides_0 : decode cX12_hides 0 = .ok (.iload_n 3, 1) := by decide +kernel
theorem dX12_hides_1 : decode cX12_hides 1 = .ok (.aload_n 0, 1) := by decide +kernel
theorem dX12_hides_2 : decode cX12_hides 2 = .ok (.getfield 31, 3) := by decide +kernel
theorem dX12_hides_5 : decode cX12_hides 5 = .ok (.iload_n 2, 1) := by decide +kernel
theorem dX12_hides_6 : decode cX12_hides 6 = .ok (.iaload, 1) := by decide +kernel
theorem dX12_hides_7 : decode cX12_hides 7 = .ok (.if_icmp .ge 7, 3) := by decide +kernel
theorem dX12_hides_10 : decode cX12_hides 10 = .ok (.iload_n 3, 1) := by decide +kernel
theorem dX12_hides_11 : decode cX12_hides 11 = .ok (.goto 9, 3) := by decide +kernel
theorem dX12_hides_14 : decode cX12_hides 14 = .ok (.aload_n 0, 1) := by decide +kernel
theorem dX12_hides_15 : decode cX12_hides 15 = .ok (.getfield 31, 3) := by decide +kernel
theorem dX12_hides_18 : decode cX12_hides 18 = .ok (.iload_n 2, 1) := by decide +kernel
theorem dX12_hides_19 : decode cX12_hides 19 = .ok (.iaload, 1) := by decide +kernel
theorem dX12_hides_20 : decode cX12_hides 20 = .ok (.istore 4, 2) := by decide +kernel
theorem dX12_hides_22 : decode cX12_hides 22 = .ok (.iload_n 3, 1) := by decide +kernel
theorem dX12_hides_23 : decode cX12_hides 23 = .ok (.aload_n 0, 1) := by decide +kernel
theorem dX12_hides_24 : decode cX12_hides 24 = .ok (.getfield 31, 3) := by decide +kernel
theorem dX12_hides_27 : decode cX12_hides 27 = .ok (.iload_n 2, 1) := by decide +kernel
theorem dX12_hides_28 : decode cX12_hides 28 = .ok (.iaload, 1) := by decide +kernel
theorem dX12_hides_29 : decode cX12_hides 29 = .ok (.if_icmp .ge 12, 3) := by decide +kernel
theorem dX12_hides_32 : decode cX12_hides 32 = .ok (.aload_n 0, 1) := by decide +kernel
theorem dX12_hides_33 : decode cX12_hides 33 = .ok (.getfield 31, 3) := by decide +kernel
theorem dX12_hides_36 : decode cX12_hides 36 = .ok (.iload_n 2, 1) := by decide +kernel
theorem dX12_hides_37 : decode cX12_hides 37 = .ok (.iaload, 1) := by decide +kernel
theorem dX12_hides_38 : decode cX12_hides 38 = .ok (.goto 4, 3) := by decide +kernel
theorem dX12_hides_41 : decode cX12_hides 41 = .ok (.iload_n 3, 1) := by decide +kernel
theorem dX12_hides_42 : decode cX12_hides 42 = .ok (.istore 5, 2) := by decide +kernel
theorem dX12_hides_44 : decode cX12_hides 44 = .ok (.iconst 0, 1) := by decide +kernel
theorem dX12_hides_45 : decode cX12_hides 45 = .ok (.istore 6, 2) := by decide +kernel
theorem dX12_hides_47 : decode cX12_hides 47 = .ok (.iload 6, 2) := by decide +kernel
theorem dX12_hides_49 : decode cX12_hides 49 = .ok (.aload_n 0, 1) := by decide +kernel
theorem dX12_hides_50 : decode cX12_hides 50 = .ok (.getfield 75, 3) := by decide +kernel
theorem dX12_hides_53 : decode cX12_hides 53 = .ok (.if_icmp .ge 72, 3) := by decide +kernel
theorem dX12_hides_56 : decode cX12_hides 56 = .ok (.iload 6, 2) := by decide +kernel
theorem dX12_hides_58 : decode cX12_hides 58 = .ok (.iload_n 1, 1) := by decide +kernel
theorem dX12_hides_59 : decode cX12_hides 59 = .ok (.if_icmp .eq 60, 3) := by decide +kernel
theorem dX12_hides_62 : decode cX12_hides 62 = .ok (.iload 6, 2) := by decide +kernel
theorem dX12_hides_64 : decode cX12_hides 64 = .ok (.iload_n 2, 1) := by decide +kernel
theorem dX12_hides_65 : decode cX12_hides 65 = .ok (.if_icmp .eq 54, 3) := by decide +kernel
theorem dX12_hides_68 : decode cX12_hides 68 = .ok (.aload_n 0, 1) := by decide +kernel
theorem dX12_hides_69 : decode cX12_hides 69 = .ok (.getfield 7, 3) := by decide +kernel
theorem dX12_hides_72 : decode cX12_hides 72 = .ok (.iconst 5, 1) := by decide +kernel
theorem dX12_hides_73 : decode cX12_hides 73 = .ok (.iload 6, 2) := by decide +kernel
theorem dX12_hides_75 : decode cX12_hides 75 = .ok (.imul, 1) := by decide +kernel
theorem dX12_hides_76 : decode cX12_hides 76 = .ok (.iconst 2, 1) := by decide +kernel
theorem dX12_hides_77 : decode cX12_hides 77 = .ok (.iadd, 1) := by decide +kernel
theorem dX12_hides_78 : decode cX12_hides 78 = .ok (.iaload, 1) := by decide +kernel
theorem dX12_hides_79 : decode cX12_hides 79 = .ok (.aload_n 0, 1) := by decide +kernel
theorem dX12_hides_80 : decode cX12_hides 80 = .ok (.getfield 7, 3) := by decide +kernel
theorem dX12_hides_83 : decode cX12_hides 83 = .ok (.iconst 5, 1) := by decide +kernel
theorem dX12_hides_84 : decode cX12_hides 84 = .ok (.iload_n 2, 1) := by decide +kernel
theorem dX12_hides_85 : decode cX12_hides 85 = .ok (.imul, 1) := by decide +kernel
theorem dX12_hides_86 : decode cX12_hides 86 = .ok (.iconst 2, 1) := by decide +kernel
theorem dX12_hides_87 : decode cX12_hides 87 = .ok (.iadd, 1) := by decide +kernel
theorem dX12_hides_88 : decode cX12_hides 88 = .ok (.iaload, 1) := by decide +kernel
theorem dX12_hides_89 : decode cX12_hides 89 = .ok (.if_icmp .lt 30, 3) := by decide +kernel
theorem dX12_hides_92 : decode cX12_hides 92 = .ok (.aload_n 0, 1) := by decide +kernel
theorem dX12_hides_93 : decode cX12_hides 93 = .ok (.getfield 31, 3) := by decide +kernel
theorem dX12_hides_96 : decode cX12_hides 96 = .ok (.iload 6, 2) := by decide +kernel
theorem dX12_hides_98 : decode cX12_hides 98 = .ok (.iaload, 1) := by decide +kernel
theorem dX12_hides_99 : decode cX12_hides 99 = .ok (.iload 4, 2) := by decide +kernel
theorem dX12_hides_101 : decode cX12_hides 101 = .ok (.if_icmp .le 18, 3) := by decide +kernel
theorem dX12_hides_104 : decode cX12_hides 104 = .ok (.aload_n 0, 1) := by decide +kernel
theorem dX12_hides_105 : decode cX12_hides 105 = .ok (.getfield 31, 3) := by decide +kernel
theorem dX12_hides_108 : decode cX12_hides 108 = .ok (.iload 6, 2) := by decide +kernel
theorem dX12_hides_110 : decode cX12_hides 110 = .ok (.iaload, 1) := by decide +kernel
theorem dX12_hides_111 : decode cX12_hides 111 = .ok (.iload 5, 2) := by decide +kernel
theorem dX12_hides_113 : decode cX12_hides 113 = .ok (.if_icmp .ge 6, 3) := by decide +kernel
theorem dX12_hides_116 : decode cX12_hides 116 = .ok (.iload 6, 2) := by decide +kernel
theorem dX12_hides_118 : decode cX12_hides 118 = .ok (.ireturn, 1) := by decide +kernel
theorem dX12_hides_119 : decode cX12_hides 119 = .ok (.iinc 6 1, 3) := by decide +kernel
theorem dX12_hides_122 : decode cX12_hides 122 = .ok (.goto (-75), 3) := by decide +kernel
theorem dX12_hides_125 : decode cX12_hides 125 = .ok (.bipush (-4), 2) := by decide +kernel
theorem dX12_hides_127 : decode cX12_hides 127 = .ok (.ireturn, 1) := by decide +kernel
theorem dX12_aims_0 : decode cX12_aims 0 = .ok (.aload_n 0, 1) := by decide +kernel
theorem dX12_aims_1 : decode cX12_aims 1 = .ok (.getfield 31, 3) := by decide +kernel
theorem dX12_aims_4 : decode cX12_aims 4 = .ok (.iload_n 3, 1) := by decide +kernel
theorem dX12_aims_5 : decode cX12_aims 5 = .ok (.iaload, 1) := by decide +kernel
theorem dX12_aims_6 : decode cX12_aims 6 = .ok (.iload_n 2, 1) := by decide +kernel
theorem dX12_aims_7 : decode cX12_aims 7 = .ok (.isub, 1) := by decide +kernel
theorem dX12_aims_8 : decode cX12_aims 8 = .ok (.invokestatic 153, 3) := by decide +kernel
theorem dX12_aims_11 : decode cX12_aims 11 = .ok (.istore 4, 2) := by decide +kernel
theorem dX12_aims_13 : decode cX12_aims 13 = .ok (.iload 4, 2) := by decide +kernel
theorem dX12_aims_15 : decode cX12_aims 15 = .ok (.iconst 3, 1) := by decide +kernel
theorem dX12_aims_16 : decode cX12_aims 16 = .ok (.if_icmp .ge 8, 3) := by decide +kernel
theorem dX12_aims_19 : decode cX12_aims 19 = .ok (.iload 4, 2) := by decide +kernel
theorem dX12_aims_21 : decode cX12_aims 21 = .ok (.goto 4, 3) := by decide +kernel
theorem dX12_aims_24 : decode cX12_aims 24 = .ok (.iconst 3, 1) := by decide +kernel
theorem dX12_aims_25 : decode cX12_aims 25 = .ok (.istore 5, 2) := by decide +kernel
theorem dX12_aims_27 : decode cX12_aims 27 = .ok (.aload_n 0, 1) := by decide +kernel
theorem dX12_aims_28 : decode cX12_aims 28 = .ok (.getfield 31, 3) := by decide +kernel
theorem dX12_aims_31 : decode cX12_aims 31 = .ok (.iload_n 3, 1) := by decide +kernel
theorem dX12_aims_32 : decode cX12_aims 32 = .ok (.iaload, 1) := by decide +kernel
theorem dX12_aims_33 : decode cX12_aims 33 = .ok (.iload_n 2, 1) := by decide +kernel
theorem dX12_aims_34 : decode cX12_aims 34 = .ok (.if_icmp .le 10, 3) := by decide +kernel
theorem dX12_aims_37 : decode cX12_aims 37 = .ok (.iload_n 2, 1) := by decide +kernel
theorem dX12_aims_38 : decode cX12_aims 38 = .ok (.iload 5, 2) := by decide +kernel
theorem dX12_aims_40 : decode cX12_aims 40 = .ok (.iadd, 1) := by decide +kernel
theorem dX12_aims_41 : decode cX12_aims 41 = .ok (.goto 7, 3) := by decide +kernel
theorem dX12_aims_44 : decode cX12_aims 44 = .ok (.iload_n 2, 1) := by decide +kernel
theorem dX12_aims_45 : decode cX12_aims 45 = .ok (.iload 5, 2) := by decide +kernel
theorem dX12_aims_47 : decode cX12_aims 47 = .ok (.isub, 1) := by decide +kernel
theorem dX12_aims_48 : decode cX12_aims 48 = .ok (.istore 6, 2) := by decide +kernel
theorem dX12_aims_50 : decode cX12_aims 50 = .ok (.aload_n 0, 1) := by decide +kernel
theorem dX12_aims_51 : decode cX12_aims 51 = .ok (.getfield 7, 3) := by decide +kernel
theorem dX12_aims_54 : decode cX12_aims 54 = .ok (.iconst 5, 1) := by decide +kernel
theorem dX12_aims_55 : decode cX12_aims 55 = .ok (.iload_n 3, 1) := by decide +kernel
theorem dX12_aims_56 : decode cX12_aims 56 = .ok (.imul, 1) := by decide +kernel
theorem dX12_aims_57 : decode cX12_aims 57 = .ok (.iconst 4, 1) := by decide +kernel
theorem dX12_aims_58 : decode cX12_aims 58 = .ok (.iadd, 1) := by decide +kernel
theorem dX12_aims_59 : decode cX12_aims 59 = .ok (.iaload, 1) := by decide +kernel
theorem dX12_aims_60 : decode cX12_aims 60 = .ok (.iconst 3, 1) := by decide +kernel
theorem dX12_aims_61 : decode cX12_aims 61 = .ok (.if_icmp .ne 18, 3) := by decide +kernel
theorem dX12_aims_64 : decode cX12_aims 64 = .ok (.aload_n 0, 1) := by decide +kernel
theorem dX12_aims_65 : decode cX12_aims 65 = .ok (.getfield 7, 3) := by decide +kernel
theorem dX12_aims_68 : decode cX12_aims 68 = .ok (.iconst 5, 1) := by decide +kernel
theorem dX12_aims_69 : decode cX12_aims 69 = .ok (.iload_n 3, 1) := by decide +kernel
theorem dX12_aims_70 : decode cX12_aims 70 = .ok (.imul, 1) := by decide +kernel
theorem dX12_aims_71 : decode cX12_aims 71 = .ok (.iconst 2, 1) := by decide +kernel
theorem dX12_aims_72 : decode cX12_aims 72 = .ok (.iadd, 1) := by decide +kernel
theorem dX12_aims_73 : decode cX12_aims 73 = .ok (.iaload, 1) := by decide +kernel
theorem dX12_aims_74 : decode cX12_aims 74 = .ok (.iconst 2, 1) := by decide +kernel
theorem dX12_aims_75 : decode cX12_aims 75 = .ok (.idiv, 1) := by decide +kernel
theorem dX12_aims_76 : decode cX12_aims 76 = .ok (.goto 13, 3) := by decide +kernel
theorem dX12_aims_79 : decode cX12_aims 79 = .ok (.aload_n 0, 1) := by decide +kernel
theorem dX12_aims_80 : decode cX12_aims 80 = .ok (.getfield 7, 3) := by decide +kernel
theorem dX12_aims_83 : decode cX12_aims 83 = .ok (.iconst 5, 1) := by decide +kernel
theorem dX12_aims_84 : decode cX12_aims 84 = .ok (.iload_n 3, 1) := by decide +kernel
theorem dX12_aims_85 : decode cX12_aims 85 = .ok (.imul, 1) := by decide +kernel
theorem dX12_aims_86 : decode cX12_aims 86 = .ok (.iconst 2, 1) := by decide +kernel
theorem dX12_aims_87 : decode cX12_aims 87 = .ok (.iadd, 1) := by decide +kernel
theorem dX12_aims_88 : decode cX12_aims 88 = .ok (.iaload, 1) := by decide +kernel
theorem dX12_aims_89 : decode cX12_aims 89 = .ok (.istore 7, 2) := by decide +kernel
theorem dX12_aims_91 : decode cX12_aims 91 = .ok (.iload 7, 2) := by decide +kernel
theorem dX12_aims_93 : decode cX12_aims 93 = .ok (.aload_n 0, 1) := by decide +kernel
theorem dX12_aims_94 : decode cX12_aims 94 = .ok (.getfield 7, 3) := by decide +kernel
theorem dX12_aims_97 : decode cX12_aims 97 = .ok (.iconst 5, 1) := by decide +kernel
theorem dX12_aims_98 : decode cX12_aims 98 = .ok (.iload_n 1, 1) := by decide +kernel
theorem dX12_aims_99 : decode cX12_aims 99 = .ok (.imul, 1) := by decide +kernel
theorem dX12_aims_100 : decode cX12_aims 100 = .ok (.iconst 3, 1) := by decide +kernel
theorem dX12_aims_101 : decode cX12_aims 101 = .ok (.iadd, 1) := by decide +kernel
theorem dX12_aims_102 : decode cX12_aims 102 = .ok (.iaload, 1) := by decide +kernel
theorem dX12_aims_103 : decode cX12_aims 103 = .ok (.iadd, 1) := by decide +kernel
theorem dX12_aims_104 : decode cX12_aims 104 = .ok (.iload 4, 2) := by decide +kernel
theorem dX12_aims_106 : decode cX12_aims 106 = .ok (.iload 5, 2) := by decide +kernel
theorem dX12_aims_108 : decode cX12_aims 108 = .ok (.isub, 1) := by decide +kernel
theorem dX12_aims_109 : decode cX12_aims 109 = .ok (.isub, 1) := by decide +kernel
theorem dX12_aims_110 : decode cX12_aims 110 = .ok (.istore 8, 2) := by decide +kernel
theorem dX12_aims_112 : decode cX12_aims 112 = .ok (.iload 8, 2) := by decide +kernel
theorem dX12_aims_114 : decode cX12_aims 114 = .ok (.ifCond .ge 7, 3) := by decide +kernel
theorem dX12_aims_117 : decode cX12_aims 117 = .ok (.iconst 0, 1) := by decide +kernel
theorem dX12_aims_118 : decode cX12_aims 118 = .ok (.goto 17, 3) := by decide +kernel
theorem dX12_aims_121 : decode cX12_aims 121 = .ok (.iload 8, 2) := by decide +kernel
theorem dX12_aims_123 : decode cX12_aims 123 = .ok (.bipush 10, 2) := by decide +kernel
theorem dX12_aims_125 : decode cX12_aims 125 = .ok (.if_icmp .le 8, 3) := by decide +kernel
theorem dX12_aims_128 : decode cX12_aims 128 = .ok (.bipush 10, 2) := by decide +kernel
theorem dX12_aims_130 : decode cX12_aims 130 = .ok (.goto 5, 3) := by decide +kernel
theorem dX12_aims_133 : decode cX12_aims 133 = .ok (.iload 8, 2) := by decide +kernel
theorem dX12_aims_135 : decode cX12_aims 135 = .ok (.istore 8, 2) := by decide +kernel
theorem dX12_aims_137 : decode cX12_aims 137 = .ok (.aload_n 0, 1) := by decide +kernel
theorem dX12_aims_138 : decode cX12_aims 138 = .ok (.getfield 37, 3) := by decide +kernel
theorem dX12_aims_141 : decode cX12_aims 141 = .ok (.iload_n 3, 1) := by decide +kernel
theorem dX12_aims_142 : decode cX12_aims 142 = .ok (.aload_n 0, 1) := by decide +kernel
theorem dX12_aims_143 : decode cX12_aims 143 = .ok (.iload_n 1, 1) := by decide +kernel
theorem dX12_aims_144 : decode cX12_aims 144 = .ok (.iload_n 3, 1) := by decide +kernel
theorem dX12_aims_145 : decode cX12_aims 145 = .ok (.iload 6, 2) := by decide +kernel
theorem dX12_aims_147 : decode cX12_aims 147 = .ok (.invokevirtual 160, 3) := by decide +kernel
theorem dX12_aims_150 : decode cX12_aims 150 = .ok (.iastore, 1) := by decide +kernel
theorem dX12_aims_151 : decode cX12_aims 151 = .ok (.aload_n 0, 1) := by decide +kernel
theorem dX12_aims_152 : decode cX12_aims 152 = .ok (.getfield 34, 3) := by decide +kernel
theorem dX12_aims_155 : decode cX12_aims 155 = .ok (.iload_n 3, 1) := by decide +kernel
theorem dX12_aims_156 : decode cX12_aims 156 = .ok (.aload_n 0, 1) := by decide +kernel
theorem dX12_aims_157 : decode cX12_aims 157 = .ok (.getfield 37, 3) := by decide +kernel
theorem dX12_aims_160 : decode cX12_aims 160 = .ok (.iload_n 3, 1) := by decide +kernel
theorem dX12_aims_161 : decode cX12_aims 161 = .ok (.iaload, 1) := by decide +kernel
theorem dX12_aims_162 : decode cX12_aims 162 = .ok (.bipush (-4), 2) := by decide +kernel
theorem dX12_aims_164 : decode cX12_aims 164 = .ok (.if_icmp .ne 8, 3) := by decide +kernel
theorem dX12_aims_167 : decode cX12_aims 167 = .ok (.iload 8, 2) := by decide +kernel
theorem dX12_aims_169 : decode cX12_aims 169 = .ok (.goto 7, 3) := by decide +kernel
theorem dX12_aims_172 : decode cX12_aims 172 = .ok (.iload 8, 2) := by decide +kernel
theorem dX12_aims_174 : decode cX12_aims 174 = .ok (.iconst 2, 1) := by decide +kernel
theorem dX12_aims_175 : decode cX12_aims 175 = .ok (.idiv, 1) := by decide +kernel
theorem dX12_aims_176 : decode cX12_aims 176 = .ok (.iastore, 1) := by decide +kernel
theorem dX12_aims_177 : decode cX12_aims 177 = .ok (.return_, 1) := by decide +kernel
theorem dX12_goBy_0 : decode cX12_goBy 0 = .ok (.aload_n 0, 1) := by decide +kernel
theorem dX12_goBy_1 : decode cX12_goBy 1 = .ok (.iload_n 1, 1) := by decide +kernel
theorem dX12_goBy_2 : decode cX12_goBy 2 = .ok (.iload_n 2, 1) := by decide +kernel
theorem dX12_goBy_3 : decode cX12_goBy 3 = .ok (.iload_n 3, 1) := by decide +kernel
theorem dX12_goBy_4 : decode cX12_goBy 4 = .ok (.invokevirtual 156, 3) := by decide +kernel
theorem dX12_goBy_7 : decode cX12_goBy 7 = .ok (.istore 4, 2) := by decide +kernel
theorem dX12_goBy_9 : decode cX12_goBy 9 = .ok (.iconst 0, 1) := by decide +kernel
theorem dX12_goBy_10 : decode cX12_goBy 10 = .ok (.istore 5, 2) := by decide +kernel
theorem dX12_goBy_12 : decode cX12_goBy 12 = .ok (.iload 5, 2) := by decide +kernel
theorem dX12_goBy_14 : decode cX12_goBy 14 = .ok (.aload_n 0, 1) := by decide +kernel
theorem dX12_goBy_15 : decode cX12_goBy 15 = .ok (.getfield 75, 3) := by decide +kernel
theorem dX12_goBy_18 : decode cX12_goBy 18 = .ok (.if_icmp .ge 46, 3) := by decide +kernel
theorem dX12_goBy_21 : decode cX12_goBy 21 = .ok (.aload_n 0, 1) := by decide +kernel
theorem dX12_goBy_22 : decode cX12_goBy 22 = .ok (.getfield 31, 3) := by decide +kernel
theorem dX12_goBy_25 : decode cX12_goBy 25 = .ok (.iload 5, 2) := by decide +kernel
theorem dX12_goBy_27 : decode cX12_goBy 27 = .ok (.iload 5, 2) := by decide +kernel
theorem dX12_goBy_29 : decode cX12_goBy 29 = .ok (.iload_n 1, 1) := by decide +kernel
theorem dX12_goBy_30 : decode cX12_goBy 30 = .ok (.if_icmp .ne 7, 3) := by decide +kernel
theorem dX12_goBy_33 : decode cX12_goBy 33 = .ok (.iload_n 2, 1) := by decide +kernel
theorem dX12_goBy_34 : decode cX12_goBy 34 = .ok (.goto 23, 3) := by decide +kernel
theorem dX12_goBy_37 : decode cX12_goBy 37 = .ok (.aload_n 0, 1) := by decide +kernel
theorem dX12_goBy_38 : decode cX12_goBy 38 = .ok (.iload 5, 2) := by decide +kernel
theorem dX12_goBy_40 : decode cX12_goBy 40 = .ok (.aload_n 0, 1) := by decide +kernel
theorem dX12_goBy_41 : decode cX12_goBy 41 = .ok (.getfield 7, 3) := by decide +kernel
theorem dX12_goBy_44 : decode cX12_goBy 44 = .ok (.iconst 5, 1) := by decide +kernel
theorem dX12_goBy_45 : decode cX12_goBy 45 = .ok (.iload 5, 2) := by decide +kernel
theorem dX12_goBy_47 : decode cX12_goBy 47 = .ok (.imul, 1) := by decide +kernel
theorem dX12_goBy_48 : decode cX12_goBy 48 = .ok (.iconst 4, 1) := by decide +kernel
theorem dX12_goBy_49 : decode cX12_goBy 49 = .ok (.iadd, 1) := by decide +kernel
theorem dX12_goBy_50 : decode cX12_goBy 50 = .ok (.iaload, 1) := by decide +kernel
theorem dX12_goBy_51 : decode cX12_goBy 51 = .ok (.iload_n 2, 1) := by decide +kernel
theorem dX12_goBy_52 : decode cX12_goBy 52 = .ok (.iload 4, 2) := by decide +kernel
theorem dX12_goBy_54 : decode cX12_goBy 54 = .ok (.invokevirtual 163, 3) := by decide +kernel
theorem dX12_goBy_57 : decode cX12_goBy 57 = .ok (.iastore, 1) := by decide +kernel
theorem dX12_goBy_58 : decode cX12_goBy 58 = .ok (.iinc 5 1, 3) := by decide +kernel
theorem dX12_goBy_61 : decode cX12_goBy 61 = .ok (.goto (-49), 3) := by decide +kernel
theorem dX12_goBy_64 : decode cX12_goBy 64 = .ok (.aload_n 0, 1) := by decide +kernel
theorem dX12_goBy_65 : decode cX12_goBy 65 = .ok (.bipush (-4), 2) := by decide +kernel
theorem dX12_goBy_67 : decode cX12_goBy 67 = .ok (.putfield 167, 3) := by decide +kernel
theorem dX12_goBy_70 : decode cX12_goBy 70 = .ok (.iconst 0, 1) := by decide +kernel
theorem dX12_goBy_71 : decode cX12_goBy 71 = .ok (.istore 5, 2) := by decide +kernel
theorem dX12_goBy_73 : decode cX12_goBy 73 = .ok (.iload 5, 2) := by decide +kernel
theorem dX12_goBy_75 : decode cX12_goBy 75 = .ok (.aload_n 0, 1) := by decide +kernel
theorem dX12_goBy_76 : decode cX12_goBy 76 = .ok (.getfield 75, 3) := by decide +kernel
theorem dX12_goBy_79 : decode cX12_goBy 79 = .ok (.if_icmp .ge 64, 3) := by decide +kernel
theorem dX12_goBy_82 : decode cX12_goBy 82 = .ok (.iload 5, 2) := by decide +kernel
theorem dX12_goBy_84 : decode cX12_goBy 84 = .ok (.iload_n 1, 1) := by decide +kernel
theorem dX12_goBy_85 : decode cX12_goBy 85 = .ok (.if_icmp .eq 52, 3) := by decide +kernel
theorem dX12_goBy_88 : decode cX12_goBy 88 = .ok (.aload_n 0, 1) := by decide +kernel
theorem dX12_goBy_89 : decode cX12_goBy 89 = .ok (.iload_n 1, 1) := by decide +kernel
theorem dX12_goBy_90 : decode cX12_goBy 90 = .ok (.iload_n 2, 1) := by decide +kernel
theorem dX12_goBy_91 : decode cX12_goBy 91 = .ok (.iload 5, 2) := by decide +kernel
theorem dX12_goBy_93 : decode cX12_goBy 93 = .ok (.invokevirtual 170, 3) := by decide +kernel
theorem dX12_goBy_96 : decode cX12_goBy 96 = .ok (.aload_n 0, 1) := by decide +kernel
theorem dX12_goBy_97 : decode cX12_goBy 97 = .ok (.aload_n 0, 1) := by decide +kernel
theorem dX12_goBy_98 : decode cX12_goBy 98 = .ok (.getfield 167, 3) := by decide +kernel
theorem dX12_goBy_101 : decode cX12_goBy 101 = .ok (.bipush (-4), 2) := by decide +kernel
theorem dX12_goBy_103 : decode cX12_goBy 103 = .ok (.if_icmp .eq 22, 3) := by decide +kernel
theorem dX12_goBy_106 : decode cX12_goBy 106 = .ok (.aload_n 0, 1) := by decide +kernel
theorem dX12_goBy_107 : decode cX12_goBy 107 = .ok (.getfield 34, 3) := by decide +kernel
theorem dX12_goBy_110 : decode cX12_goBy 110 = .ok (.iload 5, 2) := by decide +kernel
theorem dX12_goBy_112 : decode cX12_goBy 112 = .ok (.iaload, 1) := by decide +kernel
theorem dX12_goBy_113 : decode cX12_goBy 113 = .ok (.aload_n 0, 1) := by decide +kernel
theorem dX12_goBy_114 : decode cX12_goBy 114 = .ok (.getfield 34, 3) := by decide +kernel
theorem dX12_goBy_117 : decode cX12_goBy 117 = .ok (.aload_n 0, 1) := by decide +kernel
theorem dX12_goBy_118 : decode cX12_goBy 118 = .ok (.getfield 167, 3) := by decide +kernel
theorem dX12_goBy_121 : decode cX12_goBy 121 = .ok (.iaload, 1) := by decide +kernel
theorem dX12_goBy_122 : decode cX12_goBy 122 = .ok (.if_icmp .le 8, 3) := by decide +kernel
theorem dX12_goBy_125 : decode cX12_goBy 125 = .ok (.iload 5, 2) := by decide +kernel
theorem dX12_goBy_127 : decode cX12_goBy 127 = .ok (.goto 7, 3) := by decide +kernel
theorem dX12_goBy_130 : decode cX12_goBy 130 = .ok (.aload_n 0, 1) := by decide +kernel
theorem dX12_goBy_131 : decode cX12_goBy 131 = .ok (.getfield 167, 3) := by decide +kernel
theorem dX12_goBy_134 : decode cX12_goBy 134 = .ok (.putfield 167, 3) := by decide +kernel
theorem dX12_goBy_137 : decode cX12_goBy 137 = .ok (.iinc 5 1, 3) := by decide +kernel
theorem dX12_goBy_140 : decode cX12_goBy 140 = .ok (.goto (-67), 3) := by decide +kernel
theorem dX12_goBy_143 : decode cX12_goBy 143 = .ok (.return_, 1) := by decide +kernel
theorem dX12_go_0 : decode cX12_go 0 = .ok (.aload_n 0, 1) := by decide +kernel
theorem dX12_go_1 : decode cX12_go 1 = .ok (.aload_n 0, 1) := by decide +kernel
theorem dX12_go_2 : decode cX12_go 2 = .ok (.getfield 13, 3) := by decide +kernel
theorem dX12_go_5 : decode cX12_go 5 = .ok (.iload_n 1, 1) := by decide +kernel
theorem dX12_go_6 : decode cX12_go 6 = .ok (.iaload, 1) := by decide +kernel
theorem dX12_go_7 : decode cX12_go 7 = .ok (.aload_n 0, 1) := by decide +kernel
theorem dX12_go_8 : decode cX12_go 8 = .ok (.getfield 13, 3) := by decide +kernel
theorem dX12_go_11 : decode cX12_go 11 = .ok (.iconst 5, 1) := by decide +kernel
theorem dX12_go_12 : decode cX12_go 12 = .ok (.iload_n 1, 1) := by decide +kernel
theorem dX12_go_13 : decode cX12_go 13 = .ok (.iadd, 1) := by decide +kernel
theorem dX12_go_14 : decode cX12_go 14 = .ok (.iaload, 1) := by decide +kernel
theorem dX12_go_15 : decode cX12_go 15 = .ok (.aload_n 0, 1) := by decide +kernel
theorem dX12_go_16 : decode cX12_go 16 = .ok (.getfield 13, 3) := by decide +kernel
theorem dX12_go_19 : decode cX12_go 19 = .ok (.bipush 10, 2) := by decide +kernel
theorem dX12_go_21 : decode cX12_go 21 = .ok (.iload_n 1, 1) := by decide +kernel
theorem dX12_go_22 : decode cX12_go 22 = .ok (.iadd, 1) := by decide +kernel
theorem dX12_go_23 : decode cX12_go 23 = .ok (.iaload, 1) := by decide +kernel
theorem dX12_go_24 : decode cX12_go 24 = .ok (.invokevirtual 174, 3) := by decide +kernel
theorem dX12_go_27 : decode cX12_go 27 = .ok (.return_, 1) := by decide +kernel
theorem dX12_stands_0 : decode cX12_stands 0 = .ok (.aload_n 0, 1) := by decide +kernel
theorem dX12_stands_1 : decode cX12_stands 1 = .ok (.iload_n 1, 1) := by decide +kernel
theorem dX12_stands_2 : decode cX12_stands 2 = .ok (.invokevirtual 150, 3) := by decide +kernel
theorem dX12_stands_5 : decode cX12_stands 5 = .ok (.ifCond .eq 11, 3) := by decide +kernel
theorem dX12_stands_8 : decode cX12_stands 8 = .ok (.aload_n 0, 1) := by decide +kernel
theorem dX12_stands_9 : decode cX12_stands 9 = .ok (.iload_n 2, 1) := by decide +kernel
theorem dX12_stands_10 : decode cX12_stands 10 = .ok (.invokevirtual 150, 3) := by decide +kernel
theorem dX12_stands_13 : decode cX12_stands 13 = .ok (.ifCond .ne 5, 3) := by decide +kernel
theorem dX12_stands_16 : decode cX12_stands 16 = .ok (.iconst (-1), 1) := by decide +kernel
theorem dX12_stands_17 : decode cX12_stands 17 = .ok (.ireturn, 1) := by decide +kernel
theorem dX12_stands_18 : decode cX12_stands 18 = .ok (.aload_n 0, 1) := by decide +kernel
theorem dX12_stands_19 : decode cX12_stands 19 = .ok (.iload_n 1, 1) := by decide +kernel
theorem dX12_stands_20 : decode cX12_stands 20 = .ok (.invokevirtual 177, 3) := by decide +kernel
theorem dX12_stands_23 : decode cX12_stands 23 = .ok (.aload_n 0, 1) := by decide +kernel
theorem dX12_stands_24 : decode cX12_stands 24 = .ok (.getfield 31, 3) := by decide +kernel
theorem dX12_stands_27 : decode cX12_stands 27 = .ok (.iload_n 2, 1) := by decide +kernel
theorem dX12_stands_28 : decode cX12_stands 28 = .ok (.iaload, 1) := by decide +kernel
theorem dX12_stands_29 : decode cX12_stands 29 = .ok (.ireturn, 1) := by decide +kernel
theorem dX12_areApart_0 : decode cX12_areApart 0 = .ok (.aload_n 0, 1) := by decide +kernel
theorem dX12_areApart_1 : decode cX12_areApart 1 = .ok (.iload_n 1, 1) := by decide +kernel
theorem dX12_areApart_2 : decode cX12_areApart 2 = .ok (.invokevirtual 150, 3) := by decide +kernel
theorem dX12_areApart_5 : decode cX12_areApart 5 = .ok (.ifCond .eq 25, 3) := by decide +kernel
theorem dX12_areApart_8 : decode cX12_areApart 8 = .ok (.aload_n 0, 1) := by decide +kernel
theorem dX12_areApart_9 : decode cX12_areApart 9 = .ok (.iload_n 2, 1) := by decide +kernel
theorem dX12_areApart_10 : decode cX12_areApart 10 = .ok (.invokevirtual 150, 3) := by decide +kernel
theorem dX12_areApart_13 : decode cX12_areApart 13 = .ok (.ifCond .eq 17, 3) := by decide +kernel
theorem dX12_areApart_16 : decode cX12_areApart 16 = .ok (.aload_n 0, 1) := by decide +kernel
theorem dX12_areApart_17 : decode cX12_areApart 17 = .ok (.getfield 13, 3) := by decide +kernel
theorem dX12_areApart_20 : decode cX12_areApart 20 = .ok (.iload_n 1, 1) := by decide +kernel
theorem dX12_areApart_21 : decode cX12_areApart 21 = .ok (.iaload, 1) := by decide +kernel
theorem dX12_areApart_22 : decode cX12_areApart 22 = .ok (.iload_n 2, 1) := by decide +kernel
theorem dX12_areApart_23 : decode cX12_areApart 23 = .ok (.if_icmp .eq 7, 3) := by decide +kernel
theorem dX12_areApart_26 : decode cX12_areApart 26 = .ok (.iconst 1, 1) := by decide +kernel
theorem dX12_areApart_27 : decode cX12_areApart 27 = .ok (.goto 4, 3) := by decide +kernel
theorem dX12_areApart_30 : decode cX12_areApart 30 = .ok (.iconst 0, 1) := by decide +kernel
theorem dX12_areApart_31 : decode cX12_areApart 31 = .ok (.ireturn, 1) := by decide +kernel
theorem dX12_chance_0 : decode cX12_chance 0 = .ok (.aload_n 0, 1) := by decide +kernel
theorem dX12_chance_1 : decode cX12_chance 1 = .ok (.iload_n 1, 1) := by decide +kernel
theorem dX12_chance_2 : decode cX12_chance 2 = .ok (.iload_n 2, 1) := by decide +kernel
theorem dX12_chance_3 : decode cX12_chance 3 = .ok (.invokevirtual 181, 3) := by decide +kernel
theorem dX12_chance_6 : decode cX12_chance 6 = .ok (.ifCond .ne 5, 3) := by decide +kernel
theorem dX12_chance_9 : decode cX12_chance 9 = .ok (.iconst (-1), 1) := by decide +kernel
theorem dX12_chance_10 : decode cX12_chance 10 = .ok (.ireturn, 1) := by decide +kernel
theorem dX12_chance_11 : decode cX12_chance 11 = .ok (.aload_n 0, 1) := by decide +kernel
theorem dX12_chance_12 : decode cX12_chance 12 = .ok (.iload_n 1, 1) := by decide +kernel
theorem dX12_chance_13 : decode cX12_chance 13 = .ok (.invokevirtual 177, 3) := by decide +kernel
theorem dX12_chance_16 : decode cX12_chance 16 = .ok (.aload_n 0, 1) := by decide +kernel
theorem dX12_chance_17 : decode cX12_chance 17 = .ok (.getfield 34, 3) := by decide +kernel
theorem dX12_chance_20 : decode cX12_chance 20 = .ok (.iload_n 2, 1) := by decide +kernel
theorem dX12_chance_21 : decode cX12_chance 21 = .ok (.iaload, 1) := by decide +kernel
theorem dX12_chance_22 : decode cX12_chance 22 = .ok (.ireturn, 1) := by decide +kernel
theorem dX12_thrown_0 : decode cX12_thrown 0 = .ok (.aload_n 0, 1) := by decide +kernel
theorem dX12_thrown_1 : decode cX12_thrown 1 = .ok (.iload_n 1, 1) := by decide +kernel
theorem dX12_thrown_2 : decode cX12_thrown 2 = .ok (.invokevirtual 150, 3) := by decide +kernel
theorem dX12_thrown_5 : decode cX12_thrown 5 = .ok (.ifCond .eq 12, 3) := by decide +kernel
theorem dX12_thrown_8 : decode cX12_thrown 8 = .ok (.iload_n 2, 1) := by decide +kernel
theorem dX12_thrown_9 : decode cX12_thrown 9 = .ok (.iconst 0, 1) := by decide +kernel
theorem dX12_thrown_10 : decode cX12_thrown 10 = .ok (.iconst 1, 1) := by decide +kernel
theorem dX12_thrown_11 : decode cX12_thrown 11 = .ok (.invokestatic 84, 3) := by decide +kernel
theorem dX12_thrown_14 : decode cX12_thrown 14 = .ok (.ifCond .ne 5, 3) := by decide +kernel
theorem dX12_thrown_17 : decode cX12_thrown 17 = .ok (.iconst (-1), 1) := by decide +kernel
theorem dX12_thrown_18 : decode cX12_thrown 18 = .ok (.ireturn, 1) := by decide +kernel
theorem dX12_thrown_19 : decode cX12_thrown 19 = .ok (.aload_n 0, 1) := by decide +kernel
theorem dX12_thrown_20 : decode cX12_thrown 20 = .ok (.iload_n 1, 1) := by decide +kernel
theorem dX12_thrown_21 : decode cX12_thrown 21 = .ok (.invokevirtual 177, 3) := by decide +kernel
theorem dX12_thrown_24 : decode cX12_thrown 24 = .ok (.iload_n 2, 1) := by decide +kernel
theorem dX12_thrown_25 : decode cX12_thrown 25 = .ok (.ifCond .ne 10, 3) := by decide +kernel
theorem dX12_thrown_28 : decode cX12_thrown 28 = .ok (.aload_n 0, 1) := by decide +kernel
theorem dX12_thrown_29 : decode cX12_thrown 29 = .ok (.getfield 167, 3) := by decide +kernel
theorem dX12_thrown_32 : decode cX12_thrown 32 = .ok (.goto 12, 3) := by decide +kernel
theorem dX12_thrown_35 : decode cX12_thrown 35 = .ok (.aload_n 0, 1) := by decide +kernel
theorem dX12_thrown_36 : decode cX12_thrown 36 = .ok (.getfield 34, 3) := by decide +kernel
theorem dX12_thrown_39 : decode cX12_thrown 39 = .ok (.aload_n 0, 1) := by decide +kernel
theorem dX12_thrown_40 : decode cX12_thrown 40 = .ok (.getfield 167, 3) := by decide +kernel
theorem dX12_thrown_43 : decode cX12_thrown 43 = .ok (.iaload, 1) := by decide +kernel
theorem dX12_thrown_44 : decode cX12_thrown 44 = .ok (.ireturn, 1) := by decide +kernel
theorem dX12_hidden_0 : decode cX12_hidden 0 = .ok (.aload_n 0, 1) := by decide +kernel
theorem dX12_hidden_1 : decode cX12_hidden 1 = .ok (.iload_n 1, 1) := by decide +kernel
theorem dX12_hidden_2 : decode cX12_hidden 2 = .ok (.iload_n 2, 1) := by decide +kernel
theorem dX12_hidden_3 : decode cX12_hidden 3 = .ok (.invokevirtual 181, 3) := by decide +kernel
theorem dX12_hidden_6 : decode cX12_hidden 6 = .ok (.ifCond .ne 5, 3) := by decide +kernel
theorem dX12_hidden_9 : decode cX12_hidden 9 = .ok (.iconst (-1), 1) := by decide +kernel
theorem dX12_hidden_10 : decode cX12_hidden 10 = .ok (.ireturn, 1) := by decide +kernel
theorem dX12_hidden_11 : decode cX12_hidden 11 = .ok (.aload_n 0, 1) := by decide +kernel
theorem dX12_hidden_12 : decode cX12_hidden 12 = .ok (.iload_n 1, 1) := by decide +kernel
theorem dX12_hidden_13 : decode cX12_hidden 13 = .ok (.invokevirtual 177, 3) := by decide +kernel
theorem dX12_hidden_16 : decode cX12_hidden 16 = .ok (.aload_n 0, 1) := by decide +kernel
theorem dX12_hidden_17 : decode cX12_hidden 17 = .ok (.getfield 37, 3) := by decide +kernel
theorem dX12_hidden_20 : decode cX12_hidden 20 = .ok (.iload_n 2, 1) := by decide +kernel
theorem dX12_hidden_21 : decode cX12_hidden 21 = .ok (.iaload, 1) := by decide +kernel
theorem dX12_hidden_22 : decode cX12_hidden 22 = .ok (.ireturn, 1) := by decide +kernel
theorem dX12_safe_0 : decode cX12_safe 0 = .ok (.aload_n 0, 1) := by decide +kernel
theorem dX12_safe_1 : decode cX12_safe 1 = .ok (.iload_n 1, 1) := by decide +kernel
theorem dX12_safe_2 : decode cX12_safe 2 = .ok (.invokevirtual 150, 3) := by decide +kernel
theorem dX12_safe_5 : decode cX12_safe 5 = .ok (.ifCond .eq 12, 3) := by decide +kernel
theorem dX12_safe_8 : decode cX12_safe 8 = .ok (.iload_n 2, 1) := by decide +kernel
theorem dX12_safe_9 : decode cX12_safe 9 = .ok (.iconst 0, 1) := by decide +kernel
theorem dX12_safe_10 : decode cX12_safe 10 = .ok (.iconst 3, 1) := by decide +kernel
theorem dX12_safe_11 : decode cX12_safe 11 = .ok (.invokestatic 84, 3) := by decide +kernel
theorem dX12_safe_14 : decode cX12_safe 14 = .ok (.ifCond .ne 5, 3) := by decide +kernel
theorem dX12_safe_17 : decode cX12_safe 17 = .ok (.iconst (-1), 1) := by decide +kernel
theorem dX12_safe_18 : decode cX12_safe 18 = .ok (.ireturn, 1) := by decide +kernel
theorem dX12_safe_19 : decode cX12_safe 19 = .ok (.aload_n 0, 1) := by decide +kernel
theorem dX12_safe_20 : decode cX12_safe 20 = .ok (.getfield 40, 3) := by decide +kernel
theorem dX12_safe_23 : decode cX12_safe 23 = .ok (.iconst 0, 1) := by decide +kernel
theorem dX12_safe_24 : decode cX12_safe 24 = .ok (.bipush (-4), 2) := by decide +kernel
theorem dX12_safe_26 : decode cX12_safe 26 = .ok (.iastore, 1) := by decide +kernel
theorem dX12_safe_27 : decode cX12_safe 27 = .ok (.iconst 0, 1) := by decide +kernel
theorem dX12_safe_28 : decode cX12_safe 28 = .ok (.istore_n 3, 1) := by decide +kernel
theorem dX12_safe_29 : decode cX12_safe 29 = .ok (.iload_n 3, 1) := by decide +kernel
theorem dX12_safe_30 : decode cX12_safe 30 = .ok (.aload_n 0, 1) := by decide +kernel
theorem dX12_safe_31 : decode cX12_safe 31 = .ok (.getfield 75, 3) := by decide +kernel
theorem dX12_safe_34 : decode cX12_safe 34 = .ok (.if_icmp .ge 200, 3) := by decide +kernel
theorem dX12_safe_37 : decode cX12_safe 37 = .ok (.iconst 0, 1) := by decide +kernel
theorem dX12_safe_38 : decode cX12_safe 38 = .ok (.istore 4, 2) := by decide +kernel
theorem dX12_safe_40 : decode cX12_safe 40 = .ok (.iload_n 3, 1) := by decide +kernel
theorem dX12_safe_41 : decode cX12_safe 41 = .ok (.iload_n 1, 1) := by decide +kernel
theorem dX12_safe_42 : decode cX12_safe 42 = .ok (.if_icmp .eq 186, 3) := by decide +kernel
theorem dX12_safe_45 : decode cX12_safe 45 = .ok (.iload 4, 2) := by decide +kernel
theorem dX12_safe_47 : decode cX12_safe 47 = .ok (.bipush 9, 2) := by decide +kernel
theorem dX12_safe_49 : decode cX12_safe 49 = .ok (.aload_n 0, 1) := by decide +kernel
theorem dX12_safe_50 : decode cX12_safe 50 = .ok (.getfield 68, 3) := by decide +kernel
theorem dX12_safe_53 : decode cX12_safe 53 = .ok (.iconst 1, 1) := by decide +kernel
theorem dX12_safe_54 : decode cX12_safe 54 = .ok (.iadd, 1) := by decide +kernel
theorem dX12_safe_55 : decode cX12_safe 55 = .ok (.imul, 1) := by decide +kernel
theorem dX12_safe_56 : decode cX12_safe 56 = .ok (.if_icmp .ge 172, 3) := by decide +kernel
theorem dX12_safe_59 : decode cX12_safe 59 = .ok (.aload_n 0, 1) := by decide +kernel
theorem dX12_safe_60 : decode cX12_safe 60 = .ok (.iload_n 3, 1) := by decide +kernel
theorem dX12_safe_61 : decode cX12_safe 61 = .ok (.iload 4, 2) := by decide +kernel
theorem dX12_safe_63 : decode cX12_safe 63 = .ok (.bipush 9, 2) := by decide +kernel
theorem dX12_safe_65 : decode cX12_safe 65 = .ok (.idiv, 1) := by decide +kernel
theorem dX12_safe_66 : decode cX12_safe 66 = .ok (.iconst 1, 1) := by decide +kernel
theorem dX12_safe_67 : decode cX12_safe 67 = .ok (.iload 4, 2) := by decide +kernel
theorem dX12_safe_69 : decode cX12_safe 69 = .ok (.bipush 9, 2) := by decide +kernel
theorem dX12_safe_71 : decode cX12_safe 71 = .ok (.irem, 1) := by decide +kernel
theorem dX12_safe_72 : decode cX12_safe 72 = .ok (.iadd, 1) := by decide +kernel
theorem dX12_safe_73 : decode cX12_safe 73 = .ok (.invokevirtual 174, 3) := by decide +kernel
theorem dX12_safe_76 : decode cX12_safe 76 = .ok (.aload_n 0, 1) := by decide +kernel
theorem dX12_safe_77 : decode cX12_safe 77 = .ok (.getfield 167, 3) := by decide +kernel
theorem dX12_safe_80 : decode cX12_safe 80 = .ok (.iload_n 1, 1) := by decide +kernel
theorem dX12_safe_81 : decode cX12_safe 81 = .ok (.if_icmp .eq 36, 3) := by decide +kernel
theorem dX12_safe_84 : decode cX12_safe 84 = .ok (.aload_n 0, 1) := by decide +kernel
theorem dX12_safe_85 : decode cX12_safe 85 = .ok (.getfield 40, 3) := by decide +kernel
theorem dX12_safe_88 : decode cX12_safe 88 = .ok (.iconst 0, 1) := by decide +kernel
theorem dX12_safe_89 : decode cX12_safe 89 = .ok (.iaload, 1) := by decide +kernel
theorem dX12_safe_90 : decode cX12_safe 90 = .ok (.bipush (-4), 2) := by decide +kernel
theorem dX12_safe_92 : decode cX12_safe 92 = .ok (.if_icmp .eq 21, 3) := by decide +kernel
theorem dX12_safe_95 : decode cX12_safe 95 = .ok (.aload_n 0, 1) := by decide +kernel
theorem dX12_safe_96 : decode cX12_safe 96 = .ok (.getfield 34, 3) := by decide +kernel
theorem dX12_safe_99 : decode cX12_safe 99 = .ok (.aload_n 0, 1) := by decide +kernel
theorem dX12_safe_100 : decode cX12_safe 100 = .ok (.getfield 167, 3) := by decide +kernel
theorem dX12_safe_103 : decode cX12_safe 103 = .ok (.iaload, 1) := by decide +kernel
theorem dX12_safe_104 : decode cX12_safe 104 = .ok (.aload_n 0, 1) := by decide +kernel
theorem dX12_safe_105 : decode cX12_safe 105 = .ok (.getfield 40, 3) := by decide +kernel
theorem dX12_safe_108 : decode cX12_safe 108 = .ok (.iconst 3, 1) := by decide +kernel
theorem dX12_safe_109 : decode cX12_safe 109 = .ok (.iaload, 1) := by decide +kernel
theorem dX12_safe_110 : decode cX12_safe 110 = .ok (.if_icmp .ge 7, 3) := by decide +kernel
theorem dX12_safe_113 : decode cX12_safe 113 = .ok (.iconst 1, 1) := by decide +kernel
theorem dX12_safe_114 : decode cX12_safe 114 = .ok (.goto 4, 3) := by decide +kernel
theorem dX12_safe_117 : decode cX12_safe 117 = .ok (.iconst 0, 1) := by decide +kernel
theorem dX12_safe_118 : decode cX12_safe 118 = .ok (.istore 5, 2) := by decide +kernel
theorem dX12_safe_120 : decode cX12_safe 120 = .ok (.aload_n 0, 1) := by decide +kernel
theorem dX12_safe_121 : decode cX12_safe 121 = .ok (.getfield 40, 3) := by decide +kernel
theorem dX12_safe_124 : decode cX12_safe 124 = .ok (.iconst 0, 1) := by decide +kernel
theorem dX12_safe_125 : decode cX12_safe 125 = .ok (.iload 5, 2) := by decide +kernel
theorem dX12_safe_127 : decode cX12_safe 127 = .ok (.ifCond .eq 7, 3) := by decide +kernel
theorem dX12_safe_130 : decode cX12_safe 130 = .ok (.iload_n 3, 1) := by decide +kernel
theorem dX12_safe_131 : decode cX12_safe 131 = .ok (.goto 9, 3) := by decide +kernel
theorem dX12_safe_134 : decode cX12_safe 134 = .ok (.aload_n 0, 1) := by decide +kernel
theorem dX12_safe_135 : decode cX12_safe 135 = .ok (.getfield 40, 3) := by decide +kernel
theorem dX12_safe_138 : decode cX12_safe 138 = .ok (.iconst 0, 1) := by decide +kernel
theorem dX12_safe_139 : decode cX12_safe 139 = .ok (.iaload, 1) := by decide +kernel
theorem dX12_safe_140 : decode cX12_safe 140 = .ok (.iastore, 1) := by decide +kernel
theorem dX12_safe_141 : decode cX12_safe 141 = .ok (.aload_n 0, 1) := by decide +kernel
theorem dX12_safe_142 : decode cX12_safe 142 = .ok (.getfield 40, 3) := by decide +kernel
theorem dX12_safe_145 : decode cX12_safe 145 = .ok (.iconst 1, 1) := by decide +kernel
theorem dX12_safe_146 : decode cX12_safe 146 = .ok (.iload 5, 2) := by decide +kernel
theorem dX12_safe_148 : decode cX12_safe 148 = .ok (.ifCond .eq 11, 3) := by decide +kernel
theorem dX12_safe_151 : decode cX12_safe 151 = .ok (.iload 4, 2) := by decide +kernel
theorem dX12_safe_153 : decode cX12_safe 153 = .ok (.bipush 9, 2) := by decide +kernel
theorem dX12_safe_155 : decode cX12_safe 155 = .ok (.idiv, 1) := by decide +kernel
theorem dX12_safe_156 : decode cX12_safe 156 = .ok (.goto 9, 3) := by decide +kernel
theorem dX12_safe_159 : decode cX12_safe 159 = .ok (.aload_n 0, 1) := by decide +kernel
theorem dX12_safe_160 : decode cX12_safe 160 = .ok (.getfield 40, 3) := by decide +kernel
theorem dX12_safe_163 : decode cX12_safe 163 = .ok (.iconst 1, 1) := by decide +kernel
theorem dX12_safe_164 : decode cX12_safe 164 = .ok (.iaload, 1) := by decide +kernel
theorem dX12_safe_165 : decode cX12_safe 165 = .ok (.iastore, 1) := by decide +kernel
theorem dX12_safe_166 : decode cX12_safe 166 = .ok (.aload_n 0, 1) := by decide +kernel
theorem dX12_safe_167 : decode cX12_safe 167 = .ok (.getfield 40, 3) := by decide +kernel
theorem dX12_safe_170 : decode cX12_safe 170 = .ok (.iconst 2, 1) := by decide +kernel
theorem dX12_safe_171 : decode cX12_safe 171 = .ok (.iload 5, 2) := by decide +kernel
theorem dX12_safe_173 : decode cX12_safe 173 = .ok (.ifCond .eq 13, 3) := by decide +kernel
theorem dX12_safe_176 : decode cX12_safe 176 = .ok (.iconst 1, 1) := by decide +kernel
theorem dX12_safe_177 : decode cX12_safe 177 = .ok (.iload 4, 2) := by decide +kernel
theorem dX12_safe_179 : decode cX12_safe 179 = .ok (.bipush 9, 2) := by decide +kernel
theorem dX12_safe_181 : decode cX12_safe 181 = .ok (.irem, 1) := by decide +kernel
theorem dX12_safe_182 : decode cX12_safe 182 = .ok (.iadd, 1) := by decide +kernel
theorem dX12_safe_183 : decode cX12_safe 183 = .ok (.goto 9, 3) := by decide +kernel
theorem dX12_safe_186 : decode cX12_safe 186 = .ok (.aload_n 0, 1) := by decide +kernel
theorem dX12_safe_187 : decode cX12_safe 187 = .ok (.getfield 40, 3) := by decide +kernel
theorem dX12_safe_190 : decode cX12_safe 190 = .ok (.iconst 2, 1) := by decide +kernel
theorem dX12_safe_191 : decode cX12_safe 191 = .ok (.iaload, 1) := by decide +kernel
theorem dX12_safe_192 : decode cX12_safe 192 = .ok (.iastore, 1) := by decide +kernel
theorem dX12_safe_193 : decode cX12_safe 193 = .ok (.aload_n 0, 1) := by decide +kernel
theorem dX12_safe_194 : decode cX12_safe 194 = .ok (.getfield 40, 3) := by decide +kernel
theorem dX12_safe_197 : decode cX12_safe 197 = .ok (.iconst 3, 1) := by decide +kernel
theorem dX12_safe_198 : decode cX12_safe 198 = .ok (.iload 5, 2) := by decide +kernel
theorem dX12_safe_200 : decode cX12_safe 200 = .ok (.ifCond .eq 15, 3) := by decide +kernel
theorem dX12_safe_203 : decode cX12_safe 203 = .ok (.aload_n 0, 1) := by decide +kernel
theorem dX12_safe_204 : decode cX12_safe 204 = .ok (.getfield 34, 3) := by decide +kernel
theorem dX12_safe_207 : decode cX12_safe 207 = .ok (.aload_n 0, 1) := by decide +kernel
theorem dX12_safe_208 : decode cX12_safe 208 = .ok (.getfield 167, 3) := by decide +kernel
theorem dX12_safe_211 : decode cX12_safe 211 = .ok (.iaload, 1) := by decide +kernel
theorem dX12_safe_212 : decode cX12_safe 212 = .ok (.goto 9, 3) := by decide +kernel
theorem dX12_safe_215 : decode cX12_safe 215 = .ok (.aload_n 0, 1) := by decide +kernel
theorem dX12_safe_216 : decode cX12_safe 216 = .ok (.getfield 40, 3) := by decide +kernel
theorem dX12_safe_219 : decode cX12_safe 219 = .ok (.iconst 3, 1) := by decide +kernel
theorem dX12_safe_220 : decode cX12_safe 220 = .ok (.iaload, 1) := by decide +kernel
theorem dX12_safe_221 : decode cX12_safe 221 = .ok (.iastore, 1) := by decide +kernel
theorem dX12_safe_222 : decode cX12_safe 222 = .ok (.iinc 4 1, 3) := by decide +kernel
theorem dX12_safe_225 : decode cX12_safe 225 = .ok (.goto (-185), 3) := by decide +kernel
theorem dX12_safe_228 : decode cX12_safe 228 = .ok (.iinc 3 1, 3) := by decide +kernel
theorem dX12_safe_231 : decode cX12_safe 231 = .ok (.goto (-202), 3) := by decide +kernel
theorem dX12_safe_234 : decode cX12_safe 234 = .ok (.aload_n 0, 1) := by decide +kernel
theorem dX12_safe_235 : decode cX12_safe 235 = .ok (.getfield 40, 3) := by decide +kernel
theorem dX12_safe_238 : decode cX12_safe 238 = .ok (.iconst 0, 1) := by decide +kernel
theorem dX12_safe_239 : decode cX12_safe 239 = .ok (.iaload, 1) := by decide +kernel
theorem dX12_safe_240 : decode cX12_safe 240 = .ok (.bipush (-4), 2) := by decide +kernel
theorem dX12_safe_242 : decode cX12_safe 242 = .ok (.if_icmp .ne 8, 3) := by decide +kernel
theorem dX12_safe_245 : decode cX12_safe 245 = .ok (.bipush (-4), 2) := by decide +kernel
theorem dX12_safe_247 : decode cX12_safe 247 = .ok (.goto 9, 3) := by decide +kernel
theorem dX12_safe_250 : decode cX12_safe 250 = .ok (.aload_n 0, 1) := by decide +kernel
theorem dX12_safe_251 : decode cX12_safe 251 = .ok (.getfield 40, 3) := by decide +kernel
theorem dX12_safe_254 : decode cX12_safe 254 = .ok (.iload_n 2, 1) := by decide +kernel
theorem dX12_safe_255 : decode cX12_safe 255 = .ok (.iaload, 1) := by decide +kernel
theorem dX12_safe_256 : decode cX12_safe 256 = .ok (.ireturn, 1) := by decide +kernel
theorem dX12_run_0 : decode cX12_run 0 = .ok (.aload_n 0, 1) := by decide +kernel
theorem dX12_run_1 : decode cX12_run 1 = .ok (.iload_n 1, 1) := by decide +kernel
theorem dX12_run_2 : decode cX12_run 2 = .ok (.iload_n 2, 1) := by decide +kernel
theorem dX12_run_3 : decode cX12_run 3 = .ok (.invokevirtual 181, 3) := by decide +kernel
theorem dX12_run_6 : decode cX12_run 6 = .ok (.ifCond .eq 12, 3) := by decide +kernel
theorem dX12_run_9 : decode cX12_run 9 = .ok (.iload_n 3, 1) := by decide +kernel
theorem dX12_run_10 : decode cX12_run 10 = .ok (.iconst 0, 1) := by decide +kernel
theorem dX12_run_11 : decode cX12_run 11 = .ok (.iconst 1, 1) := by decide +kernel
theorem dX12_run_12 : decode cX12_run 12 = .ok (.invokestatic 84, 3) := by decide +kernel
theorem dX12_run_15 : decode cX12_run 15 = .ok (.ifCond .ne 5, 3) := by decide +kernel
theorem dX12_run_18 : decode cX12_run 18 = .ok (.iconst (-1), 1) := by decide +kernel
theorem dX12_run_19 : decode cX12_run 19 = .ok (.ireturn, 1) := by decide +kernel
theorem dX12_run_20 : decode cX12_run 20 = .ok (.aload_n 0, 1) := by decide +kernel
theorem dX12_run_21 : decode cX12_run 21 = .ok (.getfield 7, 3) := by decide +kernel
theorem dX12_run_24 : decode cX12_run 24 = .ok (.iconst 5, 1) := by decide +kernel
theorem dX12_run_25 : decode cX12_run 25 = .ok (.iload_n 2, 1) := by decide +kernel
theorem dX12_run_26 : decode cX12_run 26 = .ok (.imul, 1) := by decide +kernel
theorem dX12_run_27 : decode cX12_run 27 = .ok (.iconst 4, 1) := by decide +kernel
theorem dX12_run_28 : decode cX12_run 28 = .ok (.iadd, 1) := by decide +kernel
theorem dX12_run_29 : decode cX12_run 29 = .ok (.iaload, 1) := by decide +kernel
theorem dX12_run_30 : decode cX12_run 30 = .ok (.istore 4, 2) := by decide +kernel
theorem dX12_run_32 : decode cX12_run 32 = .ok (.bipush (-4), 2) := by decide +kernel
theorem dX12_run_34 : decode cX12_run 34 = .ok (.istore 5, 2) := by decide +kernel
theorem dX12_run_36 : decode cX12_run 36 = .ok (.iconst 0, 1) := by decide +kernel
theorem dX12_run_37 : decode cX12_run 37 = .ok (.istore 6, 2) := by decide +kernel
theorem dX12_run_39 : decode cX12_run 39 = .ok (.iconst 0, 1) := by decide +kernel
theorem dX12_run_40 : decode cX12_run 40 = .ok (.istore 7, 2) := by decide +kernel
theorem dX12_run_42 : decode cX12_run 42 = .ok (.iload 7, 2) := by decide +kernel
theorem dX12_run_44 : decode cX12_run 44 = .ok (.iconst 3, 1) := by decide +kernel
theorem dX12_run_45 : decode cX12_run 45 = .ok (.if_icmp .gt 95, 3) := by decide +kernel
theorem dX12_run_48 : decode cX12_run 48 = .ok (.aload_n 0, 1) := by decide +kernel
theorem dX12_run_49 : decode cX12_run 49 = .ok (.getfield 7, 3) := by decide +kernel
theorem dX12_run_52 : decode cX12_run 52 = .ok (.iconst 5, 1) := by decide +kernel
theorem dX12_run_53 : decode cX12_run 53 = .ok (.iload_n 2, 1) := by decide +kernel
theorem dX12_run_54 : decode cX12_run 54 = .ok (.imul, 1) := by decide +kernel
theorem dX12_run_55 : decode cX12_run 55 = .ok (.iconst 4, 1) := by decide +kernel
theorem dX12_run_56 : decode cX12_run 56 = .ok (.iadd, 1) := by decide +kernel
theorem dX12_run_57 : decode cX12_run 57 = .ok (.iload 7, 2) := by decide +kernel
theorem dX12_run_59 : decode cX12_run 59 = .ok (.iastore, 1) := by decide +kernel
theorem dX12_run_60 : decode cX12_run 60 = .ok (.aload_n 0, 1) := by decide +kernel
theorem dX12_run_61 : decode cX12_run 61 = .ok (.iload_n 1, 1) := by decide +kernel
theorem dX12_run_62 : decode cX12_run 62 = .ok (.invokevirtual 177, 3) := by decide +kernel
theorem dX12_run_65 : decode cX12_run 65 = .ok (.aload_n 0, 1) := by decide +kernel
theorem dX12_run_66 : decode cX12_run 66 = .ok (.getfield 167, 3) := by decide +kernel
theorem dX12_run_69 : decode cX12_run 69 = .ok (.iload_n 2, 1) := by decide +kernel
theorem dX12_run_70 : decode cX12_run 70 = .ok (.if_icmp .ne 12, 3) := by decide +kernel
theorem dX12_run_73 : decode cX12_run 73 = .ok (.aload_n 0, 1) := by decide +kernel
theorem dX12_run_74 : decode cX12_run 74 = .ok (.getfield 34, 3) := by decide +kernel
theorem dX12_run_77 : decode cX12_run 77 = .ok (.iload_n 2, 1) := by decide +kernel
theorem dX12_run_78 : decode cX12_run 78 = .ok (.iaload, 1) := by decide +kernel
theorem dX12_run_79 : decode cX12_run 79 = .ok (.goto 4, 3) := by decide +kernel
theorem dX12_run_82 : decode cX12_run 82 = .ok (.iconst 0, 1) := by decide +kernel
theorem dX12_run_83 : decode cX12_run 83 = .ok (.istore 8, 2) := by decide +kernel
theorem dX12_run_85 : decode cX12_run 85 = .ok (.iload 5, 2) := by decide +kernel
theorem dX12_run_87 : decode cX12_run 87 = .ok (.bipush (-4), 2) := by decide +kernel
theorem dX12_run_89 : decode cX12_run 89 = .ok (.if_icmp .eq 10, 3) := by decide +kernel
theorem dX12_run_92 : decode cX12_run 92 = .ok (.iload 8, 2) := by decide +kernel
theorem dX12_run_94 : decode cX12_run 94 = .ok (.iload 6, 2) := by decide +kernel
theorem dX12_run_96 : decode cX12_run 96 = .ok (.if_icmp .ge 7, 3) := by decide +kernel
theorem dX12_run_99 : decode cX12_run 99 = .ok (.iconst 1, 1) := by decide +kernel
theorem dX12_run_100 : decode cX12_run 100 = .ok (.goto 4, 3) := by decide +kernel
theorem dX12_run_103 : decode cX12_run 103 = .ok (.iconst 0, 1) := by decide +kernel
theorem dX12_run_104 : decode cX12_run 104 = .ok (.istore 9, 2) := by decide +kernel
theorem dX12_run_106 : decode cX12_run 106 = .ok (.iload 9, 2) := by decide +kernel
theorem dX12_run_108 : decode cX12_run 108 = .ok (.ifCond .eq 8, 3) := by decide +kernel
theorem dX12_run_111 : decode cX12_run 111 = .ok (.iload 7, 2) := by decide +kernel
theorem dX12_run_113 : decode cX12_run 113 = .ok (.goto 5, 3) := by decide +kernel
theorem dX12_run_116 : decode cX12_run 116 = .ok (.iload 5, 2) := by decide +kernel
theorem dX12_run_118 : decode cX12_run 118 = .ok (.istore 5, 2) := by decide +kernel
theorem dX12_run_120 : decode cX12_run 120 = .ok (.iload 9, 2) := by decide +kernel
theorem dX12_run_122 : decode cX12_run 122 = .ok (.ifCond .eq 8, 3) := by decide +kernel
theorem dX12_run_125 : decode cX12_run 125 = .ok (.iload 8, 2) := by decide +kernel
theorem dX12_run_127 : decode cX12_run 127 = .ok (.goto 5, 3) := by decide +kernel
theorem dX12_run_130 : decode cX12_run 130 = .ok (.iload 6, 2) := by decide +kernel
theorem dX12_run_132 : decode cX12_run 132 = .ok (.istore 6, 2) := by decide +kernel
theorem dX12_run_134 : decode cX12_run 134 = .ok (.iinc 7 1, 3) := by decide +kernel
theorem dX12_run_137 : decode cX12_run 137 = .ok (.goto (-95), 3) := by decide +kernel
theorem dX12_run_140 : decode cX12_run 140 = .ok (.aload_n 0, 1) := by decide +kernel
theorem dX12_run_141 : decode cX12_run 141 = .ok (.getfield 7, 3) := by decide +kernel
theorem dX12_run_144 : decode cX12_run 144 = .ok (.iconst 5, 1) := by decide +kernel
theorem dX12_run_145 : decode cX12_run 145 = .ok (.iload_n 2, 1) := by decide +kernel
theorem dX12_run_146 : decode cX12_run 146 = .ok (.imul, 1) := by decide +kernel
theorem dX12_run_147 : decode cX12_run 147 = .ok (.iconst 4, 1) := by decide +kernel
theorem dX12_run_148 : decode cX12_run 148 = .ok (.iadd, 1) := by decide +kernel
theorem dX12_run_149 : decode cX12_run 149 = .ok (.iload 4, 2) := by decide +kernel
theorem dX12_run_151 : decode cX12_run 151 = .ok (.iastore, 1) := by decide +kernel
theorem dX12_run_152 : decode cX12_run 152 = .ok (.iload_n 3, 1) := by decide +kernel
theorem dX12_run_153 : decode cX12_run 153 = .ok (.ifCond .ne 8, 3) := by decide +kernel
theorem dX12_run_156 : decode cX12_run 156 = .ok (.iload 5, 2) := by decide +kernel
theorem dX12_run_158 : decode cX12_run 158 = .ok (.goto 5, 3) := by decide +kernel
theorem dX12_run_161 : decode cX12_run 161 = .ok (.iload 6, 2) := by decide +kernel
theorem dX12_run_163 : decode cX12_run 163 = .ok (.ireturn, 1) := by decide +kernel
theorem dX12_codeOf_0 : decode cX12_codeOf 0 = .ok (.iconst 0, 1) := by decide +kernel
theorem dX12_codeOf_1 : decode cX12_codeOf 1 = .ok (.istore_n 1, 1) := by decide +kernel
theorem dX12_codeOf_2 : decode cX12_codeOf 2 = .ok (.aload_n 0, 1) := by decide +kernel
theorem dX12_codeOf_3 : decode cX12_codeOf 3 = .ok (.getfield 75, 3) := by decide +kernel
theorem dX12_codeOf_6 : decode cX12_codeOf 6 = .ok (.iconst 1, 1) := by decide +kernel
theorem dX12_codeOf_7 : decode cX12_codeOf 7 = .ok (.isub, 1) := by decide +kernel
theorem dX12_codeOf_8 : decode cX12_codeOf 8 = .ok (.istore_n 2, 1) := by decide +kernel
theorem dX12_codeOf_9 : decode cX12_codeOf 9 = .ok (.iload_n 2, 1) := by decide +kernel
theorem dX12_codeOf_10 : decode cX12_codeOf 10 = .ok (.ifCond .lt 23, 3) := by decide +kernel
theorem dX12_codeOf_13 : decode cX12_codeOf 13 = .ok (.iconst 4, 1) := by decide +kernel
theorem dX12_codeOf_14 : decode cX12_codeOf 14 = .ok (.iload_n 1, 1) := by decide +kernel
theorem dX12_codeOf_15 : decode cX12_codeOf 15 = .ok (.imul, 1) := by decide +kernel
theorem dX12_codeOf_16 : decode cX12_codeOf 16 = .ok (.aload_n 0, 1) := by decide +kernel
theorem dX12_codeOf_17 : decode cX12_codeOf 17 = .ok (.getfield 13, 3) := by decide +kernel
theorem dX12_codeOf_20 : decode cX12_codeOf 20 = .ok (.bipush 15, 2) := by decide +kernel
theorem dX12_codeOf_22 : decode cX12_codeOf 22 = .ok (.iload_n 2, 1) := by decide +kernel
theorem dX12_codeOf_23 : decode cX12_codeOf 23 = .ok (.iadd, 1) := by decide +kernel
theorem dX12_codeOf_24 : decode cX12_codeOf 24 = .ok (.iaload, 1) := by decide +kernel
theorem dX12_codeOf_25 : decode cX12_codeOf 25 = .ok (.iadd, 1) := by decide +kernel
theorem dX12_codeOf_26 : decode cX12_codeOf 26 = .ok (.istore_n 1, 1) := by decide +kernel
theorem dX12_codeOf_27 : decode cX12_codeOf 27 = .ok (.iinc 2 (-1), 3) := by decide +kernel
theorem dX12_codeOf_30 : decode cX12_codeOf 30 = .ok (.goto (-21), 3) := by decide +kernel
theorem dX12_codeOf_33 : decode cX12_codeOf 33 = .ok (.iload_n 1, 1) := by decide +kernel
theorem dX12_codeOf_34 : decode cX12_codeOf 34 = .ok (.ireturn, 1) := by decide +kernel
theorem dX12_left_0 : decode cX12_left 0 = .ok (.iconst 3, 1) := by decide +kernel
theorem dX12_left_1 : decode cX12_left 1 = .ok (.aload_n 0, 1) := by decide +kernel
theorem dX12_left_2 : decode cX12_left 2 = .ok (.getfield 75, 3) := by decide +kernel
theorem dX12_left_5 : decode cX12_left 5 = .ok (.imul, 1) := by decide +kernel
theorem dX12_left_6 : decode cX12_left 6 = .ok (.iconst 1, 1) := by decide +kernel
theorem dX12_left_7 : decode cX12_left 7 = .ok (.iadd, 1) := by decide +kernel
theorem dX12_left_8 : decode cX12_left 8 = .ok (.istore_n 2, 1) := by decide +kernel
theorem dX12_left_9 : decode cX12_left 9 = .ok (.iload_n 1, 1) := by decide +kernel
theorem dX12_left_10 : decode cX12_left 10 = .ok (.istore_n 3, 1) := by decide +kernel
theorem dX12_left_11 : decode cX12_left 11 = .ok (.iload_n 3, 1) := by decide +kernel
theorem dX12_left_12 : decode cX12_left 12 = .ok (.ifCond .le 16, 3) := by decide +kernel
theorem dX12_left_15 : decode cX12_left 15 = .ok (.iload_n 2, 1) := by decide +kernel
theorem dX12_left_16 : decode cX12_left 16 = .ok (.iload_n 3, 1) := by decide +kernel
theorem dX12_left_17 : decode cX12_left 17 = .ok (.iconst 4, 1) := by decide +kernel
theorem dX12_left_18 : decode cX12_left 18 = .ok (.irem, 1) := by decide +kernel
theorem dX12_left_19 : decode cX12_left 19 = .ok (.isub, 1) := by decide +kernel
theorem dX12_left_20 : decode cX12_left 20 = .ok (.istore_n 2, 1) := by decide +kernel
theorem dX12_left_21 : decode cX12_left 21 = .ok (.iload_n 3, 1) := by decide +kernel
theorem dX12_left_22 : decode cX12_left 22 = .ok (.iconst 4, 1) := by decide +kernel
theorem dX12_left_23 : decode cX12_left 23 = .ok (.idiv, 1) := by decide +kernel
theorem dX12_left_24 : decode cX12_left 24 = .ok (.istore_n 3, 1) := by decide +kernel
theorem dX12_left_25 : decode cX12_left 25 = .ok (.goto (-14), 3) := by decide +kernel
theorem dX12_left_28 : decode cX12_left 28 = .ok (.iload_n 2, 1) := by decide +kernel
theorem dX12_left_29 : decode cX12_left 29 = .ok (.ireturn, 1) := by decide +kernel
theorem dX12_then_0 : decode cX12_then 0 = .ok (.iload_n 1, 1) := by decide +kernel
theorem dX12_then_1 : decode cX12_then 1 = .ok (.iconst 2, 1) := by decide +kernel
theorem dX12_then_2 : decode cX12_then 2 = .ok (.iload_n 2, 1) := by decide +kernel
theorem dX12_then_3 : decode cX12_then 3 = .ok (.imul, 1) := by decide +kernel
theorem dX12_then_4 : decode cX12_then 4 = .ok (.ishr, 1) := by decide +kernel
theorem dX12_then_5 : decode cX12_then 5 = .ok (.iconst 3, 1) := by decide +kernel
theorem dX12_then_6 : decode cX12_then 6 = .ok (.iand, 1) := by decide +kernel
theorem dX12_then_7 : decode cX12_then 7 = .ok (.iconst 3, 1) := by decide +kernel
theorem dX12_then_8 : decode cX12_then 8 = .ok (.if_icmp .ne 7, 3) := by decide +kernel
theorem dX12_then_11 : decode cX12_then 11 = .ok (.iconst 1, 1) := by decide +kernel
theorem dX12_then_12 : decode cX12_then 12 = .ok (.goto 4, 3) := by decide +kernel
theorem dX12_then_15 : decode cX12_then 15 = .ok (.iconst 0, 1) := by decide +kernel
theorem dX12_then_16 : decode cX12_then 16 = .ok (.istore 4, 2) := by decide +kernel
theorem dX12_then_18 : decode cX12_then 18 = .ok (.iload 4, 2) := by decide +kernel
theorem dX12_then_20 : decode cX12_then 20 = .ok (.ifCond .eq 25, 3) := by decide +kernel
theorem dX12_then_23 : decode cX12_then 23 = .ok (.iload_n 3, 1) := by decide +kernel
theorem dX12_then_24 : decode cX12_then 24 = .ok (.iload_n 2, 1) := by decide +kernel
theorem dX12_then_25 : decode cX12_then 25 = .ok (.if_icmp .ne 18, 3) := by decide +kernel
theorem dX12_then_28 : decode cX12_then 28 = .ok (.aload_n 0, 1) := by decide +kernel
theorem dX12_then_29 : decode cX12_then 29 = .ok (.getfield 43, 3) := by decide +kernel
theorem dX12_then_32 : decode cX12_then 32 = .ok (.aload_n 0, 1) := by decide +kernel
theorem dX12_then_33 : decode cX12_then 33 = .ok (.iload_n 1, 1) := by decide +kernel
theorem dX12_then_34 : decode cX12_then 34 = .ok (.invokevirtual 185, 3) := by decide +kernel
theorem dX12_then_37 : decode cX12_then 37 = .ok (.iconst 1, 1) := by decide +kernel
theorem dX12_then_38 : decode cX12_then 38 = .ok (.isub, 1) := by decide +kernel
theorem dX12_then_39 : decode cX12_then 39 = .ok (.laload, 1) := by decide +kernel
theorem dX12_then_40 : decode cX12_then 40 = .ok (.goto 4, 3) := by decide +kernel
theorem dX12_then_43 : decode cX12_then 43 = .ok (.lconst 0, 1) := by decide +kernel
theorem dX12_then_44 : decode cX12_then 44 = .ok (.lreturn, 1) := by decide +kernel
theorem dX12_then_45 : decode cX12_then 45 = .ok (.aload_n 0, 1) := by decide +kernel
theorem dX12_then_46 : decode cX12_then 46 = .ok (.getfield 47, 3) := by decide +kernel
theorem dX12_then_49 : decode cX12_then 49 = .ok (.iconst 5, 1) := by decide +kernel
theorem dX12_then_50 : decode cX12_then 50 = .ok (.iload_n 1, 1) := by decide +kernel
theorem dX12_then_51 : decode cX12_then 51 = .ok (.iconst 1, 1) := by decide +kernel
theorem dX12_then_52 : decode cX12_then 52 = .ok (.iconst 2, 1) := by decide +kernel
theorem dX12_then_53 : decode cX12_then 53 = .ok (.iload_n 2, 1) := by decide +kernel
theorem dX12_then_54 : decode cX12_then 54 = .ok (.imul, 1) := by decide +kernel
theorem dX12_then_55 : decode cX12_then 55 = .ok (.ishl, 1) := by decide +kernel
theorem dX12_then_56 : decode cX12_then 56 = .ok (.iadd, 1) := by decide +kernel
theorem dX12_then_57 : decode cX12_then 57 = .ok (.imul, 1) := by decide +kernel
theorem dX12_then_58 : decode cX12_then 58 = .ok (.iload_n 2, 1) := by decide +kernel
theorem dX12_then_59 : decode cX12_then 59 = .ok (.iadd, 1) := by decide +kernel
theorem dX12_then_60 : decode cX12_then 60 = .ok (.laload, 1) := by decide +kernel
theorem dX12_then_61 : decode cX12_then 61 = .ok (.lreturn, 1) := by decide +kernel
theorem dX12_findParts_0 : decode cX12_findParts 0 = .ok (.iconst 0, 1) := by decide +kernel
theorem dX12_findParts_1 : decode cX12_findParts 1 = .ok (.istore_n 2, 1) := by decide +kernel
theorem dX12_findParts_2 : decode cX12_findParts 2 = .ok (.iload_n 2, 1) := by decide +kernel
theorem dX12_findParts_3 : decode cX12_findParts 3 = .ok (.aload_n 0, 1) := by decide +kernel
theorem dX12_findParts_4 : decode cX12_findParts 4 = .ok (.getfield 75, 3) := by decide +kernel
theorem dX12_findParts_7 : decode cX12_findParts 7 = .ok (.if_icmp .ge 39, 3) := by decide +kernel
theorem dX12_findParts_10 : decode cX12_findParts 10 = .ok (.aload_n 0, 1) := by decide +kernel
theorem dX12_findParts_11 : decode cX12_findParts 11 = .ok (.iload_n 2, 1) := by decide +kernel
theorem dX12_findParts_12 : decode cX12_findParts 12 = .ok (.invokevirtual 177, 3) := by decide +kernel
theorem dX12_findParts_15 : decode cX12_findParts 15 = .ok (.aload_n 0, 1) := by decide +kernel
theorem dX12_findParts_16 : decode cX12_findParts 16 = .ok (.getfield 50, 3) := by decide +kernel
theorem dX12_findParts_19 : decode cX12_findParts 19 = .ok (.iload_n 2, 1) := by decide +kernel
theorem dX12_findParts_20 : decode cX12_findParts 20 = .ok (.aload_n 0, 1) := by decide +kernel
theorem dX12_findParts_21 : decode cX12_findParts 21 = .ok (.getfield 167, 3) := by decide +kernel
theorem dX12_findParts_24 : decode cX12_findParts 24 = .ok (.iastore, 1) := by decide +kernel
theorem dX12_findParts_25 : decode cX12_findParts 25 = .ok (.aload_n 0, 1) := by decide +kernel
theorem dX12_findParts_26 : decode cX12_findParts 26 = .ok (.getfield 53, 3) := by decide +kernel
theorem dX12_findParts_29 : decode cX12_findParts 29 = .ok (.iload_n 2, 1) := by decide +kernel
theorem dX12_findParts_30 : decode cX12_findParts 30 = .ok (.aload_n 0, 1) := by decide +kernel
theorem dX12_findParts_31 : decode cX12_findParts 31 = .ok (.getfield 34, 3) := by decide +kernel
theorem dX12_findParts_34 : decode cX12_findParts 34 = .ok (.aload_n 0, 1) := by decide +kernel
theorem dX12_findParts_35 : decode cX12_findParts 35 = .ok (.getfield 167, 3) := by decide +kernel
theorem dX12_findParts_38 : decode cX12_findParts 38 = .ok (.iaload, 1) := by decide +kernel
theorem dX12_findParts_39 : decode cX12_findParts 39 = .ok (.iastore, 1) := by decide +kernel
theorem dX12_findParts_40 : decode cX12_findParts 40 = .ok (.iinc 2 1, 3) := by decide +kernel
theorem dX12_findParts_43 : decode cX12_findParts 43 = .ok (.goto (-41), 3) := by decide +kernel
theorem dX12_findParts_46 : decode cX12_findParts 46 = .ok (.iconst 1, 1) := by decide +kernel
theorem dX12_findParts_47 : decode cX12_findParts 47 = .ok (.iconst 2, 1) := by decide +kernel
theorem dX12_findParts_48 : decode cX12_findParts 48 = .ok (.aload_n 0, 1) := by decide +kernel
theorem dX12_findParts_49 : decode cX12_findParts 49 = .ok (.getfield 75, 3) := by decide +kernel
theorem dX12_findParts_52 : decode cX12_findParts 52 = .ok (.imul, 1) := by decide +kernel
theorem dX12_findParts_53 : decode cX12_findParts 53 = .ok (.ishl, 1) := by decide +kernel
theorem dX12_findParts_54 : decode cX12_findParts 54 = .ok (.iconst 1, 1) := by decide +kernel
theorem dX12_findParts_55 : decode cX12_findParts 55 = .ok (.isub, 1) := by decide +kernel
theorem dX12_findParts_56 : decode cX12_findParts 56 = .ok (.istore_n 2, 1) := by decide +kernel
theorem dX12_findParts_57 : decode cX12_findParts 57 = .ok (.iload_n 2, 1) := by decide +kernel
theorem dX12_findParts_58 : decode cX12_findParts 58 = .ok (.ifCond .lt 112, 3) := by decide +kernel
theorem dX12_findParts_61 : decode cX12_findParts 61 = .ok (.iconst 0, 1) := by decide +kernel
theorem dX12_findParts_62 : decode cX12_findParts 62 = .ok (.istore_n 3, 1) := by decide +kernel
theorem dX12_findParts_63 : decode cX12_findParts 63 = .ok (.iload_n 3, 1) := by decide +kernel
theorem dX12_findParts_64 : decode cX12_findParts 64 = .ok (.aload_n 0, 1) := by decide +kernel
theorem dX12_findParts_65 : decode cX12_findParts 65 = .ok (.getfield 75, 3) := by decide +kernel
theorem dX12_findParts_68 : decode cX12_findParts 68 = .ok (.if_icmp .ge 96, 3) := by decide +kernel
theorem dX12_findParts_71 : decode cX12_findParts 71 = .ok (.iload_n 1, 1) := by decide +kernel
theorem dX12_findParts_72 : decode cX12_findParts 72 = .ok (.bipush (-4), 2) := by decide +kernel
theorem dX12_findParts_74 : decode cX12_findParts 74 = .ok (.if_icmp .ne 16, 3) := by decide +kernel
theorem dX12_findParts_77 : decode cX12_findParts 77 = .ok (.aload_n 0, 1) := by decide +kernel
theorem dX12_findParts_78 : decode cX12_findParts 78 = .ok (.getfield 43, 3) := by decide +kernel
theorem dX12_findParts_81 : decode cX12_findParts 81 = .ok (.aload_n 0, 1) := by decide +kernel
theorem dX12_findParts_82 : decode cX12_findParts 82 = .ok (.iload_n 2, 1) := by decide +kernel
theorem dX12_findParts_83 : decode cX12_findParts 83 = .ok (.invokevirtual 185, 3) := by decide +kernel
theorem dX12_findParts_86 : decode cX12_findParts 86 = .ok (.laload, 1) := by decide +kernel
theorem dX12_findParts_87 : decode cX12_findParts 87 = .ok (.goto 4, 3) := by decide +kernel
theorem dX12_findParts_90 : decode cX12_findParts 90 = .ok (.lconst 0, 1) := by decide +kernel
theorem dX12_findParts_91 : decode cX12_findParts 91 = .ok (.lstore 4, 2) := by decide +kernel
theorem dX12_findParts_93 : decode cX12_findParts 93 = .ok (.lload 4, 2) := by decide +kernel
theorem dX12_findParts_95 : decode cX12_findParts 95 = .ok (.aload_n 0, 1) := by decide +kernel
theorem dX12_findParts_96 : decode cX12_findParts 96 = .ok (.getfield 53, 3) := by decide +kernel
theorem dX12_findParts_99 : decode cX12_findParts 99 = .ok (.iload_n 3, 1) := by decide +kernel
theorem dX12_findParts_100 : decode cX12_findParts 100 = .ok (.iaload, 1) := by decide +kernel
theorem dX12_findParts_101 : decode cX12_findParts 101 = .ok (.i2l, 1) := by decide +kernel
theorem dX12_findParts_102 : decode cX12_findParts 102 = .ok (.aload_n 0, 1) := by decide +kernel
theorem dX12_findParts_103 : decode cX12_findParts 103 = .ok (.iload_n 2, 1) := by decide +kernel
theorem dX12_findParts_104 : decode cX12_findParts 104 = .ok (.aload_n 0, 1) := by decide +kernel
theorem dX12_findParts_105 : decode cX12_findParts 105 = .ok (.getfield 50, 3) := by decide +kernel
theorem dX12_findParts_108 : decode cX12_findParts 108 = .ok (.iload_n 3, 1) := by decide +kernel
theorem dX12_findParts_109 : decode cX12_findParts 109 = .ok (.iaload, 1) := by decide +kernel
theorem dX12_findParts_110 : decode cX12_findParts 110 = .ok (.iload_n 1, 1) := by decide +kernel
theorem dX12_findParts_111 : decode cX12_findParts 111 = .ok (.invokevirtual 188, 3) := by decide +kernel
theorem dX12_findParts_114 : decode cX12_findParts 114 = .ok (.lmul, 1) := by decide +kernel
theorem dX12_findParts_115 : decode cX12_findParts 115 = .ok (.ladd, 1) := by decide +kernel
theorem dX12_findParts_116 : decode cX12_findParts 116 = .ok (.lstore 4, 2) := by decide +kernel
theorem dX12_findParts_118 : decode cX12_findParts 118 = .ok (.lload 4, 2) := by decide +kernel
theorem dX12_findParts_120 : decode cX12_findParts 120 = .ok (.bipush 10, 2) := by decide +kernel
theorem dX12_findParts_122 : decode cX12_findParts 122 = .ok (.aload_n 0, 1) := by decide +kernel
theorem dX12_findParts_123 : decode cX12_findParts 123 = .ok (.getfield 53, 3) := by decide +kernel
theorem dX12_findParts_126 : decode cX12_findParts 126 = .ok (.iload_n 3, 1) := by decide +kernel
theorem dX12_findParts_127 : decode cX12_findParts 127 = .ok (.iaload, 1) := by decide +kernel
theorem dX12_findParts_128 : decode cX12_findParts 128 = .ok (.isub, 1) := by decide +kernel
theorem dX12_findParts_129 : decode cX12_findParts 129 = .ok (.i2l, 1) := by decide +kernel
theorem dX12_findParts_130 : decode cX12_findParts 130 = .ok (.aload_n 0, 1) := by decide +kernel
theorem dX12_findParts_131 : decode cX12_findParts 131 = .ok (.iload_n 2, 1) := by decide +kernel
theorem dX12_findParts_132 : decode cX12_findParts 132 = .ok (.aload_n 0, 1) := by decide +kernel
theorem dX12_findParts_133 : decode cX12_findParts 133 = .ok (.getfield 13, 3) := by decide +kernel
theorem dX12_findParts_136 : decode cX12_findParts 136 = .ok (.iload_n 3, 1) := by decide +kernel
theorem dX12_findParts_137 : decode cX12_findParts 137 = .ok (.iaload, 1) := by decide +kernel
theorem dX12_findParts_138 : decode cX12_findParts 138 = .ok (.iload_n 1, 1) := by decide +kernel
theorem dX12_findParts_139 : decode cX12_findParts 139 = .ok (.invokevirtual 188, 3) := by decide +kernel
theorem dX12_findParts_142 : decode cX12_findParts 142 = .ok (.lmul, 1) := by decide +kernel
theorem dX12_findParts_143 : decode cX12_findParts 143 = .ok (.ladd, 1) := by decide +kernel
theorem dX12_findParts_144 : decode cX12_findParts 144 = .ok (.lstore 4, 2) := by decide +kernel
theorem dX12_findParts_146 : decode cX12_findParts 146 = .ok (.aload_n 0, 1) := by decide +kernel
theorem dX12_findParts_147 : decode cX12_findParts 147 = .ok (.getfield 47, 3) := by decide +kernel
theorem dX12_findParts_150 : decode cX12_findParts 150 = .ok (.iconst 5, 1) := by decide +kernel
theorem dX12_findParts_151 : decode cX12_findParts 151 = .ok (.iload_n 2, 1) := by decide +kernel
theorem dX12_findParts_152 : decode cX12_findParts 152 = .ok (.imul, 1) := by decide +kernel
theorem dX12_findParts_153 : decode cX12_findParts 153 = .ok (.iload_n 3, 1) := by decide +kernel
theorem dX12_findParts_154 : decode cX12_findParts 154 = .ok (.iadd, 1) := by decide +kernel
theorem dX12_findParts_155 : decode cX12_findParts 155 = .ok (.lload 4, 2) := by decide +kernel
theorem dX12_findParts_157 : decode cX12_findParts 157 = .ok (.lastore, 1) := by decide +kernel
theorem dX12_findParts_158 : decode cX12_findParts 158 = .ok (.iinc 3 1, 3) := by decide +kernel
theorem dX12_findParts_161 : decode cX12_findParts 161 = .ok (.goto (-98), 3) := by decide +kernel
theorem dX12_findParts_164 : decode cX12_findParts 164 = .ok (.iinc 2 (-1), 3) := by decide +kernel
theorem dX12_findParts_167 : decode cX12_findParts 167 = .ok (.goto (-110), 3) := by decide +kernel
theorem dX12_findParts_170 : decode cX12_findParts 170 = .ok (.return_, 1) := by decide +kernel
theorem dX12_part_0 : decode cX12_part 0 = .ok (.aload_n 0, 1) := by decide +kernel
theorem dX12_part_1 : decode cX12_part 1 = .ok (.invokevirtual 192, 3) := by decide +kernel
theorem dX12_part_4 : decode cX12_part 4 = .ok (.istore_n 3, 1) := by decide +kernel
theorem dX12_part_5 : decode cX12_part 5 = .ok (.aload_n 0, 1) := by decide +kernel
theorem dX12_part_6 : decode cX12_part 6 = .ok (.getfield 47, 3) := by decide +kernel
theorem dX12_part_9 : decode cX12_part 9 = .ok (.iconst 5, 1) := by decide +kernel
theorem dX12_part_10 : decode cX12_part 10 = .ok (.iload_n 3, 1) := by decide +kernel
theorem dX12_part_11 : decode cX12_part 11 = .ok (.imul, 1) := by decide +kernel
theorem dX12_part_12 : decode cX12_part 12 = .ok (.iload_n 1, 1) := by decide +kernel
theorem dX12_part_13 : decode cX12_part 13 = .ok (.iadd, 1) := by decide +kernel
theorem dX12_part_14 : decode cX12_part 14 = .ok (.laload, 1) := by decide +kernel
theorem dX12_part_15 : decode cX12_part 15 = .ok (.lstore 4, 2) := by decide +kernel
theorem dX12_part_17 : decode cX12_part 17 = .ok (.aload_n 0, 1) := by decide +kernel
theorem dX12_part_18 : decode cX12_part 18 = .ok (.getfield 43, 3) := by decide +kernel
theorem dX12_part_21 : decode cX12_part 21 = .ok (.aload_n 0, 1) := by decide +kernel
theorem dX12_part_22 : decode cX12_part 22 = .ok (.iload_n 3, 1) := by decide +kernel
theorem dX12_part_23 : decode cX12_part 23 = .ok (.invokevirtual 185, 3) := by decide +kernel
theorem dX12_part_26 : decode cX12_part 26 = .ok (.laload, 1) := by decide +kernel
theorem dX12_part_27 : decode cX12_part 27 = .ok (.lstore 6, 2) := by decide +kernel
theorem dX12_part_29 : decode cX12_part 29 = .ok (.lload 4, 2) := by decide +kernel
theorem dX12_part_31 : decode cX12_part 31 = .ok (.lstore 8, 2) := by decide +kernel
theorem dX12_part_33 : decode cX12_part 33 = .ok (.lload 6, 2) := by decide +kernel
theorem dX12_part_35 : decode cX12_part 35 = .ok (.lstore 10, 2) := by decide +kernel
theorem dX12_part_37 : decode cX12_part 37 = .ok (.lload 10, 2) := by decide +kernel
theorem dX12_part_39 : decode cX12_part 39 = .ok (.lconst 0, 1) := by decide +kernel
theorem dX12_part_40 : decode cX12_part 40 = .ok (.lcmp, 1) := by decide +kernel
theorem dX12_part_41 : decode cX12_part 41 = .ok (.ifCond .eq 21, 3) := by decide +kernel
theorem dX12_part_44 : decode cX12_part 44 = .ok (.lload 8, 2) := by decide +kernel
theorem dX12_part_46 : decode cX12_part 46 = .ok (.lload 10, 2) := by decide +kernel
theorem dX12_part_48 : decode cX12_part 48 = .ok (.lrem, 1) := by decide +kernel
theorem dX12_part_49 : decode cX12_part 49 = .ok (.lstore 12, 2) := by decide +kernel
theorem dX12_part_51 : decode cX12_part 51 = .ok (.lload 10, 2) := by decide +kernel
theorem dX12_part_53 : decode cX12_part 53 = .ok (.lstore 8, 2) := by decide +kernel
theorem dX12_part_55 : decode cX12_part 55 = .ok (.lload 12, 2) := by decide +kernel
theorem dX12_part_57 : decode cX12_part 57 = .ok (.lstore 10, 2) := by decide +kernel
theorem dX12_part_59 : decode cX12_part 59 = .ok (.goto (-22), 3) := by decide +kernel
theorem dX12_part_62 : decode cX12_part 62 = .ok (.iload_n 2, 1) := by decide +kernel
theorem dX12_part_63 : decode cX12_part 63 = .ok (.ifCond .ne 8, 3) := by decide +kernel
theorem dX12_part_66 : decode cX12_part 66 = .ok (.lload 4, 2) := by decide +kernel
theorem dX12_part_68 : decode cX12_part 68 = .ok (.goto 5, 3) := by decide +kernel
theorem dX12_part_71 : decode cX12_part 71 = .ok (.lload 6, 2) := by decide +kernel
theorem dX12_part_73 : decode cX12_part 73 = .ok (.lload 8, 2) := by decide +kernel
theorem dX12_part_75 : decode cX12_part 75 = .ok (.ldiv, 1) := by decide +kernel
theorem dX12_part_76 : decode cX12_part 76 = .ok (.lreturn, 1) := by decide +kernel
theorem dX12_first_0 : decode cX12_first 0 = .ok (.aload_n 0, 1) := by decide +kernel
theorem dX12_first_1 : decode cX12_first 1 = .ok (.iload_n 1, 1) := by decide +kernel
theorem dX12_first_2 : decode cX12_first 2 = .ok (.invokevirtual 150, 3) := by decide +kernel
theorem dX12_first_5 : decode cX12_first 5 = .ok (.ifCond .eq 20, 3) := by decide +kernel
theorem dX12_first_8 : decode cX12_first 8 = .ok (.aload_n 0, 1) := by decide +kernel
theorem dX12_first_9 : decode cX12_first 9 = .ok (.iload_n 2, 1) := by decide +kernel
theorem dX12_first_10 : decode cX12_first 10 = .ok (.invokevirtual 150, 3) := by decide +kernel
theorem dX12_first_13 : decode cX12_first 13 = .ok (.ifCond .eq 12, 3) := by decide +kernel
theorem dX12_first_16 : decode cX12_first 16 = .ok (.iload_n 3, 1) := by decide +kernel
theorem dX12_first_17 : decode cX12_first 17 = .ok (.iconst 0, 1) := by decide +kernel
theorem dX12_first_18 : decode cX12_first 18 = .ok (.iconst 1, 1) := by decide +kernel
theorem dX12_first_19 : decode cX12_first 19 = .ok (.invokestatic 84, 3) := by decide +kernel
theorem dX12_first_22 : decode cX12_first 22 = .ok (.ifCond .ne 7, 3) := by decide +kernel
theorem dX12_first_25 : decode cX12_first 25 = .ok (.ldc2_w 195, 3) := by decide +kernel
theorem dX12_first_28 : decode cX12_first 28 = .ok (.lreturn, 1) := by decide +kernel
theorem dX12_first_29 : decode cX12_first 29 = .ok (.aload_n 0, 1) := by decide +kernel
theorem dX12_first_30 : decode cX12_first 30 = .ok (.iload_n 2, 1) := by decide +kernel
theorem dX12_first_31 : decode cX12_first 31 = .ok (.invokevirtual 197, 3) := by decide +kernel
theorem dX12_first_34 : decode cX12_first 34 = .ok (.aload_n 0, 1) := by decide +kernel
theorem dX12_first_35 : decode cX12_first 35 = .ok (.iload_n 1, 1) := by decide +kernel
theorem dX12_first_36 : decode cX12_first 36 = .ok (.iload_n 3, 1) := by decide +kernel
theorem dX12_first_37 : decode cX12_first 37 = .ok (.invokevirtual 200, 3) := by decide +kernel
theorem dX12_first_40 : decode cX12_first 40 = .ok (.lreturn, 1) := by decide +kernel
theorem dX12_rounds_0 : decode cX12_rounds 0 = .ok (.aload_n 0, 1) := by decide +kernel
theorem dX12_rounds_1 : decode cX12_rounds 1 = .ok (.iload_n 1, 1) := by decide +kernel
theorem dX12_rounds_2 : decode cX12_rounds 2 = .ok (.invokevirtual 150, 3) := by decide +kernel
theorem dX12_rounds_5 : decode cX12_rounds 5 = .ok (.ifCond .eq 12, 3) := by decide +kernel
theorem dX12_rounds_8 : decode cX12_rounds 8 = .ok (.iload_n 2, 1) := by decide +kernel
theorem dX12_rounds_9 : decode cX12_rounds 9 = .ok (.iconst 0, 1) := by decide +kernel
theorem dX12_rounds_10 : decode cX12_rounds 10 = .ok (.iconst 1, 1) := by decide +kernel
theorem dX12_rounds_11 : decode cX12_rounds 11 = .ok (.invokestatic 84, 3) := by decide +kernel
theorem dX12_rounds_14 : decode cX12_rounds 14 = .ok (.ifCond .ne 7, 3) := by decide +kernel
theorem dX12_rounds_17 : decode cX12_rounds 17 = .ok (.ldc2_w 195, 3) := by decide +kernel
theorem dX12_rounds_20 : decode cX12_rounds 20 = .ok (.lreturn, 1) := by decide +kernel
theorem dX12_rounds_21 : decode cX12_rounds 21 = .ok (.aload_n 0, 1) := by decide +kernel
theorem dX12_rounds_22 : decode cX12_rounds 22 = .ok (.bipush (-4), 2) := by decide +kernel
theorem dX12_rounds_24 : decode cX12_rounds 24 = .ok (.invokevirtual 197, 3) := by decide +kernel
theorem dX12_rounds_27 : decode cX12_rounds 27 = .ok (.aload_n 0, 1) := by decide +kernel
theorem dX12_rounds_28 : decode cX12_rounds 28 = .ok (.iload_n 1, 1) := by decide +kernel
theorem dX12_rounds_29 : decode cX12_rounds 29 = .ok (.iload_n 2, 1) := by decide +kernel
theorem dX12_rounds_30 : decode cX12_rounds 30 = .ok (.invokevirtual 200, 3) := by decide +kernel
theorem dX12_rounds_33 : decode cX12_rounds 33 = .ok (.lreturn, 1) := by decide +kernel
theorem dX12_knows_0 : decode cX12_knows 0 = .ok (.aload_n 0, 1) := by decide +kernel
theorem dX12_knows_1 : decode cX12_knows 1 = .ok (.getfield 144, 3) := by decide +kernel
theorem dX12_knows_4 : decode cX12_knows 4 = .ok (.bipush 8, 2) := by decide +kernel
theorem dX12_knows_6 : decode cX12_knows 6 = .ok (.if_icmp .ne 41, 3) := by decide +kernel
theorem dX12_knows_9 : decode cX12_knows 9 = .ok (.iconst 0, 1) := by decide +kernel
theorem dX12_knows_10 : decode cX12_knows 10 = .ok (.istore_n 2, 1) := by decide +kernel
theorem dX12_knows_11 : decode cX12_knows 11 = .ok (.iload_n 2, 1) := by decide +kernel
theorem dX12_knows_12 : decode cX12_knows 12 = .ok (.bipush 35, 2) := by decide +kernel
theorem dX12_knows_14 : decode cX12_knows 14 = .ok (.if_icmp .ge 23, 3) := by decide +kernel
theorem dX12_knows_17 : decode cX12_knows 17 = .ok (.aload_n 0, 1) := by decide +kernel
theorem dX12_knows_18 : decode cX12_knows 18 = .ok (.getfield 56, 3) := by decide +kernel
theorem dX12_knows_21 : decode cX12_knows 21 = .ok (.iload_n 2, 1) := by decide +kernel
theorem dX12_knows_22 : decode cX12_knows 22 = .ok (.aload_n 0, 1) := by decide +kernel
theorem dX12_knows_23 : decode cX12_knows 23 = .ok (.getfield 56, 3) := by decide +kernel
theorem dX12_knows_26 : decode cX12_knows 26 = .ok (.iload_n 2, 1) := by decide +kernel
theorem dX12_knows_27 : decode cX12_knows 27 = .ok (.iconst 5, 1) := by decide +kernel
theorem dX12_knows_28 : decode cX12_knows 28 = .ok (.iadd, 1) := by decide +kernel
theorem dX12_knows_29 : decode cX12_knows 29 = .ok (.iaload, 1) := by decide +kernel
theorem dX12_knows_30 : decode cX12_knows 30 = .ok (.iastore, 1) := by decide +kernel
theorem dX12_knows_31 : decode cX12_knows 31 = .ok (.iinc 2 1, 3) := by decide +kernel
theorem dX12_knows_34 : decode cX12_knows 34 = .ok (.goto (-23), 3) := by decide +kernel
theorem dX12_knows_37 : decode cX12_knows 37 = .ok (.aload_n 0, 1) := by decide +kernel
theorem dX12_knows_38 : decode cX12_knows 38 = .ok (.dup, 1) := by decide +kernel
theorem dX12_knows_39 : decode cX12_knows 39 = .ok (.getfield 144, 3) := by decide +kernel
theorem dX12_knows_42 : decode cX12_knows 42 = .ok (.iconst 1, 1) := by decide +kernel
theorem dX12_knows_43 : decode cX12_knows 43 = .ok (.isub, 1) := by decide +kernel
theorem dX12_knows_44 : decode cX12_knows 44 = .ok (.putfield 144, 3) := by decide +kernel
theorem dX12_knows_47 : decode cX12_knows 47 = .ok (.aload_n 0, 1) := by decide +kernel
theorem dX12_knows_48 : decode cX12_knows 48 = .ok (.getfield 56, 3) := by decide +kernel
theorem dX12_knows_51 : decode cX12_knows 51 = .ok (.iconst 5, 1) := by decide +kernel
theorem dX12_knows_52 : decode cX12_knows 52 = .ok (.aload_n 0, 1) := by decide +kernel
theorem dX12_knows_53 : decode cX12_knows 53 = .ok (.getfield 144, 3) := by decide +kernel
theorem dX12_knows_56 : decode cX12_knows 56 = .ok (.imul, 1) := by decide +kernel
theorem dX12_knows_57 : decode cX12_knows 57 = .ok (.iload_n 1, 1) := by decide +kernel
theorem dX12_knows_58 : decode cX12_knows 58 = .ok (.iastore, 1) := by decide +kernel
theorem dX12_knows_59 : decode cX12_knows 59 = .ok (.iconst 0, 1) := by decide +kernel
theorem dX12_knows_60 : decode cX12_knows 60 = .ok (.istore_n 2, 1) := by decide +kernel
theorem dX12_knows_61 : decode cX12_knows 61 = .ok (.iload_n 2, 1) := by decide +kernel
theorem dX12_knows_62 : decode cX12_knows 62 = .ok (.iconst 4, 1) := by decide +kernel
theorem dX12_knows_63 : decode cX12_knows 63 = .ok (.if_icmp .ge 34, 3) := by decide +kernel
theorem dX12_knows_66 : decode cX12_knows 66 = .ok (.aload_n 0, 1) := by decide +kernel
theorem dX12_knows_67 : decode cX12_knows 67 = .ok (.getfield 56, 3) := by decide +kernel
theorem dX12_knows_70 : decode cX12_knows 70 = .ok (.iconst 5, 1) := by decide +kernel
theorem dX12_knows_71 : decode cX12_knows 71 = .ok (.aload_n 0, 1) := by decide +kernel
theorem dX12_knows_72 : decode cX12_knows 72 = .ok (.getfield 144, 3) := by decide +kernel
theorem dX12_knows_75 : decode cX12_knows 75 = .ok (.imul, 1) := by decide +kernel
theorem dX12_knows_76 : decode cX12_knows 76 = .ok (.iconst 1, 1) := by decide +kernel
theorem dX12_knows_77 : decode cX12_knows 77 = .ok (.iadd, 1) := by decide +kernel
theorem dX12_knows_78 : decode cX12_knows 78 = .ok (.iload_n 2, 1) := by decide +kernel
theorem dX12_knows_79 : decode cX12_knows 79 = .ok (.iadd, 1) := by decide +kernel
theorem dX12_knows_80 : decode cX12_knows 80 = .ok (.aload_n 0, 1) := by decide +kernel
theorem dX12_knows_81 : decode cX12_knows 81 = .ok (.getfield 13, 3) := by decide +kernel
theorem dX12_knows_84 : decode cX12_knows 84 = .ok (.iconst 5, 1) := by decide +kernel
theorem dX12_knows_85 : decode cX12_knows 85 = .ok (.iload_n 2, 1) := by decide +kernel
theorem dX12_knows_86 : decode cX12_knows 86 = .ok (.imul, 1) := by decide +kernel
theorem dX12_knows_87 : decode cX12_knows 87 = .ok (.iload_n 1, 1) := by decide +kernel
theorem dX12_knows_88 : decode cX12_knows 88 = .ok (.iadd, 1) := by decide +kernel
theorem dX12_knows_89 : decode cX12_knows 89 = .ok (.iaload, 1) := by decide +kernel
theorem dX12_knows_90 : decode cX12_knows 90 = .ok (.iastore, 1) := by decide +kernel
theorem dX12_knows_91 : decode cX12_knows 91 = .ok (.iinc 2 1, 3) := by decide +kernel
theorem dX12_knows_94 : decode cX12_knows 94 = .ok (.goto (-33), 3) := by decide +kernel
theorem dX12_knows_97 : decode cX12_knows 97 = .ok (.aload_n 0, 1) := by decide +kernel
theorem dX12_knows_98 : decode cX12_knows 98 = .ok (.dup, 1) := by decide +kernel
theorem dX12_knows_99 : decode cX12_knows 99 = .ok (.getfield 144, 3) := by decide +kernel
theorem dX12_knows_102 : decode cX12_knows 102 = .ok (.iconst 1, 1) := by decide +kernel
theorem dX12_knows_103 : decode cX12_knows 103 = .ok (.iadd, 1) := by decide +kernel
theorem dX12_knows_104 : decode cX12_knows 104 = .ok (.putfield 144, 3) := by decide +kernel
theorem dX12_knows_107 : decode cX12_knows 107 = .ok (.return_, 1) := by decide +kernel
theorem dX12_call_0 : decode cX12_call 0 = .ok (.aload_n 0, 1) := by decide +kernel
theorem dX12_call_1 : decode cX12_call 1 = .ok (.iload_n 1, 1) := by decide +kernel
theorem dX12_call_2 : decode cX12_call 2 = .ok (.invokevirtual 150, 3) := by decide +kernel
theorem dX12_call_5 : decode cX12_call 5 = .ok (.ifCond .eq 39, 3) := by decide +kernel
theorem dX12_call_8 : decode cX12_call 8 = .ok (.aload_n 0, 1) := by decide +kernel
theorem dX12_call_9 : decode cX12_call 9 = .ok (.iload_n 2, 1) := by decide +kernel
theorem dX12_call_10 : decode cX12_call 10 = .ok (.invokevirtual 150, 3) := by decide +kernel
theorem dX12_call_13 : decode cX12_call 13 = .ok (.ifCond .eq 31, 3) := by decide +kernel
theorem dX12_call_16 : decode cX12_call 16 = .ok (.iload_n 1, 1) := by decide +kernel
theorem dX12_call_17 : decode cX12_call 17 = .ok (.iload_n 2, 1) := by decide +kernel
theorem dX12_call_18 : decode cX12_call 18 = .ok (.if_icmp .eq 26, 3) := by decide +kernel
theorem dX12_call_21 : decode cX12_call 21 = .ok (.iload_n 3, 1) := by decide +kernel
theorem dX12_call_22 : decode cX12_call 22 = .ok (.iconst 0, 1) := by decide +kernel
theorem dX12_call_23 : decode cX12_call 23 = .ok (.aload_n 0, 1) := by decide +kernel
theorem dX12_call_24 : decode cX12_call 24 = .ok (.getfield 68, 3) := by decide +kernel
theorem dX12_call_27 : decode cX12_call 27 = .ok (.invokestatic 84, 3) := by decide +kernel
theorem dX12_call_30 : decode cX12_call 30 = .ok (.ifCond .eq 14, 3) := by decide +kernel
theorem dX12_call_33 : decode cX12_call 33 = .ok (.iload 4, 2) := by decide +kernel
theorem dX12_call_35 : decode cX12_call 35 = .ok (.iconst 1, 1) := by decide +kernel
theorem dX12_call_36 : decode cX12_call 36 = .ok (.bipush 9, 2) := by decide +kernel
theorem dX12_call_38 : decode cX12_call 38 = .ok (.invokestatic 84, 3) := by decide +kernel
theorem dX12_call_41 : decode cX12_call 41 = .ok (.ifCond .ne 5, 3) := by decide +kernel
theorem dX12_call_44 : decode cX12_call 44 = .ok (.iconst (-1), 1) := by decide +kernel
theorem dX12_call_45 : decode cX12_call 45 = .ok (.ireturn, 1) := by decide +kernel
theorem dX12_call_46 : decode cX12_call 46 = .ok (.aload_n 0, 1) := by decide +kernel
theorem dX12_call_47 : decode cX12_call 47 = .ok (.iload_n 1, 1) := by decide +kernel
theorem dX12_call_48 : decode cX12_call 48 = .ok (.invokevirtual 204, 3) := by decide +kernel
theorem dX12_call_51 : decode cX12_call 51 = .ok (.aload_n 0, 1) := by decide +kernel
theorem dX12_call_52 : decode cX12_call 52 = .ok (.getfield 13, 3) := by decide +kernel
theorem dX12_call_55 : decode cX12_call 55 = .ok (.iload_n 1, 1) := by decide +kernel
theorem dX12_call_56 : decode cX12_call 56 = .ok (.iload_n 2, 1) := by decide +kernel
theorem dX12_call_57 : decode cX12_call 57 = .ok (.iastore, 1) := by decide +kernel
theorem dX12_call_58 : decode cX12_call 58 = .ok (.aload_n 0, 1) := by decide +kernel
theorem dX12_call_59 : decode cX12_call 59 = .ok (.getfield 13, 3) := by decide +kernel
theorem dX12_call_62 : decode cX12_call 62 = .ok (.iconst 5, 1) := by decide +kernel
theorem dX12_call_63 : decode cX12_call 63 = .ok (.iload_n 1, 1) := by decide +kernel
theorem dX12_call_64 : decode cX12_call 64 = .ok (.iadd, 1) := by decide +kernel
theorem dX12_call_65 : decode cX12_call 65 = .ok (.iload_n 3, 1) := by decide +kernel
theorem dX12_call_66 : decode cX12_call 66 = .ok (.iastore, 1) := by decide +kernel
theorem dX12_call_67 : decode cX12_call 67 = .ok (.aload_n 0, 1) := by decide +kernel
theorem dX12_call_68 : decode cX12_call 68 = .ok (.getfield 13, 3) := by decide +kernel
theorem dX12_call_71 : decode cX12_call 71 = .ok (.bipush 10, 2) := by decide +kernel
theorem dX12_call_73 : decode cX12_call 73 = .ok (.iload_n 1, 1) := by decide +kernel
theorem dX12_call_74 : decode cX12_call 74 = .ok (.iadd, 1) := by decide +kernel
theorem dX12_call_75 : decode cX12_call 75 = .ok (.iload 4, 2) := by decide +kernel
theorem dX12_call_77 : decode cX12_call 77 = .ok (.iastore, 1) := by decide +kernel
theorem dX12_call_78 : decode cX12_call 78 = .ok (.aload_n 0, 1) := by decide +kernel
theorem dX12_call_79 : decode cX12_call 79 = .ok (.getfield 144, 3) := by decide +kernel
theorem dX12_call_82 : decode cX12_call 82 = .ok (.ireturn, 1) := by decide +kernel
theorem dX12_letters_0 : decode cX12_letters 0 = .ok (.aload_n 0, 1) := by decide +kernel
theorem dX12_letters_1 : decode cX12_letters 1 = .ok (.iload_n 1, 1) := by decide +kernel
theorem dX12_letters_2 : decode cX12_letters 2 = .ok (.invokevirtual 150, 3) := by decide +kernel
theorem dX12_letters_5 : decode cX12_letters 5 = .ok (.ifCond .eq 12, 3) := by decide +kernel
theorem dX12_letters_8 : decode cX12_letters 8 = .ok (.iload_n 2, 1) := by decide +kernel
theorem dX12_letters_9 : decode cX12_letters 9 = .ok (.iconst 0, 1) := by decide +kernel
theorem dX12_letters_10 : decode cX12_letters 10 = .ok (.iconst 3, 1) := by decide +kernel
theorem dX12_letters_11 : decode cX12_letters 11 = .ok (.invokestatic 84, 3) := by decide +kernel
theorem dX12_letters_14 : decode cX12_letters 14 = .ok (.ifCond .ne 5, 3) := by decide +kernel
theorem dX12_letters_17 : decode cX12_letters 17 = .ok (.iconst (-1), 1) := by decide +kernel
theorem dX12_letters_18 : decode cX12_letters 18 = .ok (.ireturn, 1) := by decide +kernel
theorem dX12_letters_19 : decode cX12_letters 19 = .ok (.aload_n 0, 1) := by decide +kernel
theorem dX12_letters_20 : decode cX12_letters 20 = .ok (.iload_n 1, 1) := by decide +kernel
theorem dX12_letters_21 : decode cX12_letters 21 = .ok (.invokevirtual 204, 3) := by decide +kernel
theorem dX12_letters_24 : decode cX12_letters 24 = .ok (.aload_n 0, 1) := by decide +kernel
theorem dX12_letters_25 : decode cX12_letters 25 = .ok (.getfield 13, 3) := by decide +kernel
theorem dX12_letters_28 : decode cX12_letters 28 = .ok (.bipush 15, 2) := by decide +kernel
theorem dX12_letters_30 : decode cX12_letters 30 = .ok (.iload_n 1, 1) := by decide +kernel
theorem dX12_letters_31 : decode cX12_letters 31 = .ok (.iadd, 1) := by decide +kernel
theorem dX12_letters_32 : decode cX12_letters 32 = .ok (.iaload, 1) := by decide +kernel
theorem dX12_letters_33 : decode cX12_letters 33 = .ok (.istore_n 3, 1) := by decide +kernel
theorem dX12_letters_34 : decode cX12_letters 34 = .ok (.aload_n 0, 1) := by decide +kernel
theorem dX12_letters_35 : decode cX12_letters 35 = .ok (.getfield 13, 3) := by decide +kernel
theorem dX12_letters_38 : decode cX12_letters 38 = .ok (.bipush 15, 2) := by decide +kernel
theorem dX12_letters_40 : decode cX12_letters 40 = .ok (.iload_n 1, 1) := by decide +kernel
theorem dX12_letters_41 : decode cX12_letters 41 = .ok (.iadd, 1) := by decide +kernel
theorem dX12_letters_42 : decode cX12_letters 42 = .ok (.iload_n 2, 1) := by decide +kernel
theorem dX12_letters_43 : decode cX12_letters 43 = .ok (.iastore, 1) := by decide +kernel
theorem dX12_letters_44 : decode cX12_letters 44 = .ok (.iload_n 3, 1) := by decide +kernel
theorem dX12_letters_45 : decode cX12_letters 45 = .ok (.ireturn, 1) := by decide +kernel
theorem dX12_undo_0 : decode cX12_undo 0 = .ok (.aload_n 0, 1) := by decide +kernel
theorem dX12_undo_1 : decode cX12_undo 1 = .ok (.getfield 144, 3) := by decide +kernel
theorem dX12_undo_4 : decode cX12_undo 4 = .ok (.ifCond .ne 6, 3) := by decide +kernel
theorem dX12_undo_7 : decode cX12_undo 7 = .ok (.bipush (-2), 2) := by decide +kernel
theorem dX12_undo_9 : decode cX12_undo 9 = .ok (.ireturn, 1) := by decide +kernel
theorem dX12_undo_10 : decode cX12_undo 10 = .ok (.aload_n 0, 1) := by decide +kernel
theorem dX12_undo_11 : decode cX12_undo 11 = .ok (.dup, 1) := by decide +kernel
theorem dX12_undo_12 : decode cX12_undo 12 = .ok (.getfield 144, 3) := by decide +kernel
theorem dX12_undo_15 : decode cX12_undo 15 = .ok (.iconst 1, 1) := by decide +kernel
theorem dX12_undo_16 : decode cX12_undo 16 = .ok (.isub, 1) := by decide +kernel
theorem dX12_undo_17 : decode cX12_undo 17 = .ok (.putfield 144, 3) := by decide +kernel
theorem dX12_undo_20 : decode cX12_undo 20 = .ok (.aload_n 0, 1) := by decide +kernel
theorem dX12_undo_21 : decode cX12_undo 21 = .ok (.getfield 56, 3) := by decide +kernel
theorem dX12_undo_24 : decode cX12_undo 24 = .ok (.iconst 5, 1) := by decide +kernel
theorem dX12_undo_25 : decode cX12_undo 25 = .ok (.aload_n 0, 1) := by decide +kernel
theorem dX12_undo_26 : decode cX12_undo 26 = .ok (.getfield 144, 3) := by decide +kernel
theorem dX12_undo_29 : decode cX12_undo 29 = .ok (.imul, 1) := by decide +kernel
theorem dX12_undo_30 : decode cX12_undo 30 = .ok (.iaload, 1) := by decide +kernel
theorem dX12_undo_31 : decode cX12_undo 31 = .ok (.istore_n 1, 1) := by decide +kernel
theorem dX12_undo_32 : decode cX12_undo 32 = .ok (.iconst 0, 1) := by decide +kernel
theorem dX12_undo_33 : decode cX12_undo 33 = .ok (.istore_n 2, 1) := by decide +kernel
theorem dX12_undo_34 : decode cX12_undo 34 = .ok (.iload_n 2, 1) := by decide +kernel
theorem dX12_undo_35 : decode cX12_undo 35 = .ok (.iconst 4, 1) := by decide +kernel
theorem dX12_undo_36 : decode cX12_undo 36 = .ok (.if_icmp .ge 34, 3) := by decide +kernel
theorem dX12_undo_39 : decode cX12_undo 39 = .ok (.aload_n 0, 1) := by decide +kernel
theorem dX12_undo_40 : decode cX12_undo 40 = .ok (.getfield 13, 3) := by decide +kernel
theorem dX12_undo_43 : decode cX12_undo 43 = .ok (.iconst 5, 1) := by decide +kernel
theorem dX12_undo_44 : decode cX12_undo 44 = .ok (.iload_n 2, 1) := by decide +kernel
theorem dX12_undo_45 : decode cX12_undo 45 = .ok (.imul, 1) := by decide +kernel
theorem dX12_undo_46 : decode cX12_undo 46 = .ok (.iload_n 1, 1) := by decide +kernel
theorem dX12_undo_47 : decode cX12_undo 47 = .ok (.iadd, 1) := by decide +kernel
theorem dX12_undo_48 : decode cX12_undo 48 = .ok (.aload_n 0, 1) := by decide +kernel
theorem dX12_undo_49 : decode cX12_undo 49 = .ok (.getfield 56, 3) := by decide +kernel
theorem dX12_undo_52 : decode cX12_undo 52 = .ok (.iconst 5, 1) := by decide +kernel
theorem dX12_undo_53 : decode cX12_undo 53 = .ok (.aload_n 0, 1) := by decide +kernel
theorem dX12_undo_54 : decode cX12_undo 54 = .ok (.getfield 144, 3) := by decide +kernel
theorem dX12_undo_57 : decode cX12_undo 57 = .ok (.imul, 1) := by decide +kernel
theorem dX12_undo_58 : decode cX12_undo 58 = .ok (.iconst 1, 1) := by decide +kernel
theorem dX12_undo_59 : decode cX12_undo 59 = .ok (.iadd, 1) := by decide +kernel
theorem dX12_undo_60 : decode cX12_undo 60 = .ok (.iload_n 2, 1) := by decide +kernel
theorem dX12_undo_61 : decode cX12_undo 61 = .ok (.iadd, 1) := by decide +kernel
theorem dX12_undo_62 : decode cX12_undo 62 = .ok (.iaload, 1) := by decide +kernel
theorem dX12_undo_63 : decode cX12_undo 63 = .ok (.iastore, 1) := by decide +kernel
theorem dX12_undo_64 : decode cX12_undo 64 = .ok (.iinc 2 1, 3) := by decide +kernel
theorem dX12_undo_67 : decode cX12_undo 67 = .ok (.goto (-33), 3) := by decide +kernel
theorem dX12_undo_70 : decode cX12_undo 70 = .ok (.aload_n 0, 1) := by decide +kernel
theorem dX12_undo_71 : decode cX12_undo 71 = .ok (.getfield 144, 3) := by decide +kernel
theorem dX12_undo_74 : decode cX12_undo 74 = .ok (.ireturn, 1) := by decide +kernel
theorem dX12_seen_0 : decode cX12_seen 0 = .ok (.aload_n 0, 1) := by decide +kernel
theorem dX12_seen_1 : decode cX12_seen 1 = .ok (.iload_n 1, 1) := by decide +kernel
theorem dX12_seen_2 : decode cX12_seen 2 = .ok (.invokevirtual 150, 3) := by decide +kernel
theorem dX12_seen_5 : decode cX12_seen 5 = .ok (.ifCond .eq 23, 3) := by decide +kernel
theorem dX12_seen_8 : decode cX12_seen 8 = .ok (.aload_n 0, 1) := by decide +kernel
theorem dX12_seen_9 : decode cX12_seen 9 = .ok (.iload_n 2, 1) := by decide +kernel
theorem dX12_seen_10 : decode cX12_seen 10 = .ok (.invokevirtual 150, 3) := by decide +kernel
theorem dX12_seen_13 : decode cX12_seen 13 = .ok (.ifCond .eq 15, 3) := by decide +kernel
theorem dX12_seen_16 : decode cX12_seen 16 = .ok (.iload_n 3, 1) := by decide +kernel
theorem dX12_seen_17 : decode cX12_seen 17 = .ok (.iconst 0, 1) := by decide +kernel
theorem dX12_seen_18 : decode cX12_seen 18 = .ok (.aload_n 0, 1) := by decide +kernel
theorem dX12_seen_19 : decode cX12_seen 19 = .ok (.getfield 68, 3) := by decide +kernel
theorem dX12_seen_22 : decode cX12_seen 22 = .ok (.invokestatic 84, 3) := by decide +kernel
theorem dX12_seen_25 : decode cX12_seen 25 = .ok (.ifCond .ne 5, 3) := by decide +kernel
theorem dX12_seen_28 : decode cX12_seen 28 = .ok (.iconst (-1), 1) := by decide +kernel
theorem dX12_seen_29 : decode cX12_seen 29 = .ok (.ireturn, 1) := by decide +kernel
theorem dX12_seen_30 : decode cX12_seen 30 = .ok (.aload_n 0, 1) := by decide +kernel
theorem dX12_seen_31 : decode cX12_seen 31 = .ok (.getfield 141, 3) := by decide +kernel
theorem dX12_seen_34 : decode cX12_seen 34 = .ok (.bipush 8, 2) := by decide +kernel
theorem dX12_seen_36 : decode cX12_seen 36 = .ok (.if_icmp .ne 6, 3) := by decide +kernel
theorem dX12_seen_39 : decode cX12_seen 39 = .ok (.bipush (-3), 2) := by decide +kernel
theorem dX12_seen_41 : decode cX12_seen 41 = .ok (.ireturn, 1) := by decide +kernel
theorem dX12_seen_42 : decode cX12_seen 42 = .ok (.aload_n 0, 1) := by decide +kernel
theorem dX12_seen_43 : decode cX12_seen 43 = .ok (.getfield 59, 3) := by decide +kernel
theorem dX12_seen_46 : decode cX12_seen 46 = .ok (.iconst 3, 1) := by decide +kernel
theorem dX12_seen_47 : decode cX12_seen 47 = .ok (.aload_n 0, 1) := by decide +kernel
theorem dX12_seen_48 : decode cX12_seen 48 = .ok (.getfield 141, 3) := by decide +kernel
theorem dX12_seen_51 : decode cX12_seen 51 = .ok (.imul, 1) := by decide +kernel
theorem dX12_seen_52 : decode cX12_seen 52 = .ok (.iload_n 1, 1) := by decide +kernel
theorem dX12_seen_53 : decode cX12_seen 53 = .ok (.iastore, 1) := by decide +kernel
theorem dX12_seen_54 : decode cX12_seen 54 = .ok (.aload_n 0, 1) := by decide +kernel
theorem dX12_seen_55 : decode cX12_seen 55 = .ok (.getfield 59, 3) := by decide +kernel
theorem dX12_seen_58 : decode cX12_seen 58 = .ok (.iconst 3, 1) := by decide +kernel
theorem dX12_seen_59 : decode cX12_seen 59 = .ok (.aload_n 0, 1) := by decide +kernel
theorem dX12_seen_60 : decode cX12_seen 60 = .ok (.getfield 141, 3) := by decide +kernel
theorem dX12_seen_63 : decode cX12_seen 63 = .ok (.imul, 1) := by decide +kernel
theorem dX12_seen_64 : decode cX12_seen 64 = .ok (.iconst 1, 1) := by decide +kernel
theorem dX12_seen_65 : decode cX12_seen 65 = .ok (.iadd, 1) := by decide +kernel
theorem dX12_seen_66 : decode cX12_seen 66 = .ok (.iload_n 2, 1) := by decide +kernel
theorem dX12_seen_67 : decode cX12_seen 67 = .ok (.iastore, 1) := by decide +kernel
theorem dX12_seen_68 : decode cX12_seen 68 = .ok (.aload_n 0, 1) := by decide +kernel
theorem dX12_seen_69 : decode cX12_seen 69 = .ok (.getfield 59, 3) := by decide +kernel
theorem dX12_seen_72 : decode cX12_seen 72 = .ok (.iconst 3, 1) := by decide +kernel
theorem dX12_seen_73 : decode cX12_seen 73 = .ok (.aload_n 0, 1) := by decide +kernel
theorem dX12_seen_74 : decode cX12_seen 74 = .ok (.getfield 141, 3) := by decide +kernel
theorem dX12_seen_77 : decode cX12_seen 77 = .ok (.imul, 1) := by decide +kernel
theorem dX12_seen_78 : decode cX12_seen 78 = .ok (.iconst 2, 1) := by decide +kernel
theorem dX12_seen_79 : decode cX12_seen 79 = .ok (.iadd, 1) := by decide +kernel
theorem dX12_seen_80 : decode cX12_seen 80 = .ok (.iload_n 3, 1) := by decide +kernel
theorem dX12_seen_81 : decode cX12_seen 81 = .ok (.iastore, 1) := by decide +kernel
theorem dX12_seen_82 : decode cX12_seen 82 = .ok (.aload_n 0, 1) := by decide +kernel
theorem dX12_seen_83 : decode cX12_seen 83 = .ok (.dup, 1) := by decide +kernel
theorem dX12_seen_84 : decode cX12_seen 84 = .ok (.getfield 141, 3) := by decide +kernel
theorem dX12_seen_87 : decode cX12_seen 87 = .ok (.iconst 1, 1) := by decide +kernel
theorem dX12_seen_88 : decode cX12_seen 88 = .ok (.iadd, 1) := by decide +kernel
theorem dX12_seen_89 : decode cX12_seen 89 = .ok (.putfield 141, 3) := by decide +kernel
theorem dX12_seen_92 : decode cX12_seen 92 = .ok (.aload_n 0, 1) := by decide +kernel
theorem dX12_seen_93 : decode cX12_seen 93 = .ok (.getfield 141, 3) := by decide +kernel
theorem dX12_seen_96 : decode cX12_seen 96 = .ok (.ireturn, 1) := by decide +kernel
theorem dX12_forget_0 : decode cX12_forget 0 = .ok (.aload_n 0, 1) := by decide +kernel
theorem dX12_forget_1 : decode cX12_forget 1 = .ok (.getfield 141, 3) := by decide +kernel
theorem dX12_forget_4 : decode cX12_forget 4 = .ok (.istore_n 1, 1) := by decide +kernel
theorem dX12_forget_5 : decode cX12_forget 5 = .ok (.aload_n 0, 1) := by decide +kernel
theorem dX12_forget_6 : decode cX12_forget 6 = .ok (.iconst 0, 1) := by decide +kernel
theorem dX12_forget_7 : decode cX12_forget 7 = .ok (.putfield 141, 3) := by decide +kernel
theorem dX12_forget_10 : decode cX12_forget 10 = .ok (.iload_n 1, 1) := by decide +kernel
theorem dX12_forget_11 : decode cX12_forget 11 = .ok (.ireturn, 1) := by decide +kernel
theorem dX12_kinds_0 : decode cX12_kinds 0 = .ok (.aload_n 0, 1) := by decide +kernel
theorem dX12_kinds_1 : decode cX12_kinds 1 = .ok (.iload_n 1, 1) := by decide +kernel
theorem dX12_kinds_2 : decode cX12_kinds 2 = .ok (.invokevirtual 150, 3) := by decide +kernel
theorem dX12_kinds_5 : decode cX12_kinds 5 = .ok (.ifCond .ne 5, 3) := by decide +kernel
theorem dX12_kinds_8 : decode cX12_kinds 8 = .ok (.iconst (-1), 1) := by decide +kernel
theorem dX12_kinds_9 : decode cX12_kinds 9 = .ok (.ireturn, 1) := by decide +kernel
theorem dX12_kinds_10 : decode cX12_kinds 10 = .ok (.bipush 15, 2) := by decide +kernel
theorem dX12_kinds_12 : decode cX12_kinds 12 = .ok (.istore_n 2, 1) := by decide +kernel
theorem dX12_kinds_13 : decode cX12_kinds 13 = .ok (.iconst 0, 1) := by decide +kernel
theorem dX12_kinds_14 : decode cX12_kinds 14 = .ok (.istore_n 3, 1) := by decide +kernel
theorem dX12_kinds_15 : decode cX12_kinds 15 = .ok (.iload_n 3, 1) := by decide +kernel
theorem dX12_kinds_16 : decode cX12_kinds 16 = .ok (.aload_n 0, 1) := by decide +kernel
theorem dX12_kinds_17 : decode cX12_kinds 17 = .ok (.getfield 141, 3) := by decide +kernel
theorem dX12_kinds_20 : decode cX12_kinds 20 = .ok (.if_icmp .ge 152, 3) := by decide +kernel
theorem dX12_kinds_23 : decode cX12_kinds 23 = .ok (.aload_n 0, 1) := by decide +kernel
theorem dX12_kinds_24 : decode cX12_kinds 24 = .ok (.getfield 59, 3) := by decide +kernel
theorem dX12_kinds_27 : decode cX12_kinds 27 = .ok (.iconst 3, 1) := by decide +kernel
theorem dX12_kinds_28 : decode cX12_kinds 28 = .ok (.iload_n 3, 1) := by decide +kernel
theorem dX12_kinds_29 : decode cX12_kinds 29 = .ok (.imul, 1) := by decide +kernel
theorem dX12_kinds_30 : decode cX12_kinds 30 = .ok (.iaload, 1) := by decide +kernel
theorem dX12_kinds_31 : decode cX12_kinds 31 = .ok (.istore 4, 2) := by decide +kernel
theorem dX12_kinds_33 : decode cX12_kinds 33 = .ok (.aload_n 0, 1) := by decide +kernel
theorem dX12_kinds_34 : decode cX12_kinds 34 = .ok (.aload_n 0, 1) := by decide +kernel
theorem dX12_kinds_35 : decode cX12_kinds 35 = .ok (.getfield 13, 3) := by decide +kernel
theorem dX12_kinds_38 : decode cX12_kinds 38 = .ok (.iload 4, 2) := by decide +kernel
theorem dX12_kinds_40 : decode cX12_kinds 40 = .ok (.iaload, 1) := by decide +kernel
theorem dX12_kinds_41 : decode cX12_kinds 41 = .ok (.aload_n 0, 1) := by decide +kernel
theorem dX12_kinds_42 : decode cX12_kinds 42 = .ok (.getfield 13, 3) := by decide +kernel
theorem dX12_kinds_45 : decode cX12_kinds 45 = .ok (.iconst 5, 1) := by decide +kernel
theorem dX12_kinds_46 : decode cX12_kinds 46 = .ok (.iload 4, 2) := by decide +kernel
theorem dX12_kinds_48 : decode cX12_kinds 48 = .ok (.iadd, 1) := by decide +kernel
theorem dX12_kinds_49 : decode cX12_kinds 49 = .ok (.iaload, 1) := by decide +kernel
theorem dX12_kinds_50 : decode cX12_kinds 50 = .ok (.aload_n 0, 1) := by decide +kernel
theorem dX12_kinds_51 : decode cX12_kinds 51 = .ok (.getfield 13, 3) := by decide +kernel
theorem dX12_kinds_54 : decode cX12_kinds 54 = .ok (.bipush 10, 2) := by decide +kernel
theorem dX12_kinds_56 : decode cX12_kinds 56 = .ok (.iload 4, 2) := by decide +kernel
theorem dX12_kinds_58 : decode cX12_kinds 58 = .ok (.iadd, 1) := by decide +kernel
theorem dX12_kinds_59 : decode cX12_kinds 59 = .ok (.iaload, 1) := by decide +kernel
theorem dX12_kinds_60 : decode cX12_kinds 60 = .ok (.invokevirtual 156, 3) := by decide +kernel
theorem dX12_kinds_63 : decode cX12_kinds 63 = .ok (.istore 5, 2) := by decide +kernel
theorem dX12_kinds_65 : decode cX12_kinds 65 = .ok (.iconst 0, 1) := by decide +kernel
theorem dX12_kinds_66 : decode cX12_kinds 66 = .ok (.istore 6, 2) := by decide +kernel
theorem dX12_kinds_68 : decode cX12_kinds 68 = .ok (.iload 6, 2) := by decide +kernel
theorem dX12_kinds_70 : decode cX12_kinds 70 = .ok (.iconst 3, 1) := by decide +kernel
theorem dX12_kinds_71 : decode cX12_kinds 71 = .ok (.if_icmp .gt 95, 3) := by decide +kernel
theorem dX12_kinds_74 : decode cX12_kinds 74 = .ok (.aload_n 0, 1) := by decide +kernel
theorem dX12_kinds_75 : decode cX12_kinds 75 = .ok (.getfield 13, 3) := by decide +kernel
theorem dX12_kinds_78 : decode cX12_kinds 78 = .ok (.iload 4, 2) := by decide +kernel
theorem dX12_kinds_80 : decode cX12_kinds 80 = .ok (.iaload, 1) := by decide +kernel
theorem dX12_kinds_81 : decode cX12_kinds 81 = .ok (.iload_n 1, 1) := by decide +kernel
theorem dX12_kinds_82 : decode cX12_kinds 82 = .ok (.if_icmp .ne 15, 3) := by decide +kernel
theorem dX12_kinds_85 : decode cX12_kinds 85 = .ok (.aload_n 0, 1) := by decide +kernel
theorem dX12_kinds_86 : decode cX12_kinds 86 = .ok (.getfield 13, 3) := by decide +kernel
theorem dX12_kinds_89 : decode cX12_kinds 89 = .ok (.iconst 5, 1) := by decide +kernel
theorem dX12_kinds_90 : decode cX12_kinds 90 = .ok (.iload 4, 2) := by decide +kernel
theorem dX12_kinds_92 : decode cX12_kinds 92 = .ok (.iadd, 1) := by decide +kernel
theorem dX12_kinds_93 : decode cX12_kinds 93 = .ok (.iaload, 1) := by decide +kernel
theorem dX12_kinds_94 : decode cX12_kinds 94 = .ok (.goto 21, 3) := by decide +kernel
theorem dX12_kinds_97 : decode cX12_kinds 97 = .ok (.aload_n 0, 1) := by decide +kernel
theorem dX12_kinds_98 : decode cX12_kinds 98 = .ok (.iload_n 1, 1) := by decide +kernel
theorem dX12_kinds_99 : decode cX12_kinds 99 = .ok (.iload 6, 2) := by decide +kernel
theorem dX12_kinds_101 : decode cX12_kinds 101 = .ok (.aload_n 0, 1) := by decide +kernel
theorem dX12_kinds_102 : decode cX12_kinds 102 = .ok (.getfield 13, 3) := by decide +kernel
theorem dX12_kinds_105 : decode cX12_kinds 105 = .ok (.iconst 5, 1) := by decide +kernel
theorem dX12_kinds_106 : decode cX12_kinds 106 = .ok (.iload 4, 2) := by decide +kernel
theorem dX12_kinds_108 : decode cX12_kinds 108 = .ok (.iadd, 1) := by decide +kernel
theorem dX12_kinds_109 : decode cX12_kinds 109 = .ok (.iaload, 1) := by decide +kernel
theorem dX12_kinds_110 : decode cX12_kinds 110 = .ok (.iload 5, 2) := by decide +kernel
theorem dX12_kinds_112 : decode cX12_kinds 112 = .ok (.invokevirtual 163, 3) := by decide +kernel
theorem dX12_kinds_115 : decode cX12_kinds 115 = .ok (.istore 7, 2) := by decide +kernel
theorem dX12_kinds_117 : decode cX12_kinds 117 = .ok (.iload_n 2, 1) := by decide +kernel
theorem dX12_kinds_118 : decode cX12_kinds 118 = .ok (.aload_n 0, 1) := by decide +kernel
theorem dX12_kinds_119 : decode cX12_kinds 119 = .ok (.getfield 59, 3) := by decide +kernel
theorem dX12_kinds_122 : decode cX12_kinds 122 = .ok (.iconst 3, 1) := by decide +kernel
theorem dX12_kinds_123 : decode cX12_kinds 123 = .ok (.iload_n 3, 1) := by decide +kernel
theorem dX12_kinds_124 : decode cX12_kinds 124 = .ok (.imul, 1) := by decide +kernel
theorem dX12_kinds_125 : decode cX12_kinds 125 = .ok (.iconst 1, 1) := by decide +kernel
theorem dX12_kinds_126 : decode cX12_kinds 126 = .ok (.iadd, 1) := by decide +kernel
theorem dX12_kinds_127 : decode cX12_kinds 127 = .ok (.iaload, 1) := by decide +kernel
theorem dX12_kinds_128 : decode cX12_kinds 128 = .ok (.iload_n 1, 1) := by decide +kernel
theorem dX12_kinds_129 : decode cX12_kinds 129 = .ok (.if_icmp .ne 27, 3) := by decide +kernel
theorem dX12_kinds_132 : decode cX12_kinds 132 = .ok (.iload 7, 2) := by decide +kernel
theorem dX12_kinds_134 : decode cX12_kinds 134 = .ok (.aload_n 0, 1) := by decide +kernel
theorem dX12_kinds_135 : decode cX12_kinds 135 = .ok (.getfield 59, 3) := by decide +kernel
theorem dX12_kinds_138 : decode cX12_kinds 138 = .ok (.iconst 3, 1) := by decide +kernel
theorem dX12_kinds_139 : decode cX12_kinds 139 = .ok (.iload_n 3, 1) := by decide +kernel
theorem dX12_kinds_140 : decode cX12_kinds 140 = .ok (.imul, 1) := by decide +kernel
theorem dX12_kinds_141 : decode cX12_kinds 141 = .ok (.iconst 2, 1) := by decide +kernel
theorem dX12_kinds_142 : decode cX12_kinds 142 = .ok (.iadd, 1) := by decide +kernel
theorem dX12_kinds_143 : decode cX12_kinds 143 = .ok (.iaload, 1) := by decide +kernel
theorem dX12_kinds_144 : decode cX12_kinds 144 = .ok (.if_icmp .eq 12, 3) := by decide +kernel
theorem dX12_kinds_147 : decode cX12_kinds 147 = .ok (.iconst 1, 1) := by decide +kernel
theorem dX12_kinds_148 : decode cX12_kinds 148 = .ok (.iload 6, 2) := by decide +kernel
theorem dX12_kinds_150 : decode cX12_kinds 150 = .ok (.ishl, 1) := by decide +kernel
theorem dX12_kinds_151 : decode cX12_kinds 151 = .ok (.iconst (-1), 1) := by decide +kernel
theorem dX12_kinds_152 : decode cX12_kinds 152 = .ok (.ixor, 1) := by decide +kernel
theorem dX12_kinds_153 : decode cX12_kinds 153 = .ok (.goto 5, 3) := by decide +kernel
theorem dX12_kinds_156 : decode cX12_kinds 156 = .ok (.bipush 15, 2) := by decide +kernel
theorem dX12_kinds_158 : decode cX12_kinds 158 = .ok (.iand, 1) := by decide +kernel
theorem dX12_kinds_159 : decode cX12_kinds 159 = .ok (.istore_n 2, 1) := by decide +kernel
theorem dX12_kinds_160 : decode cX12_kinds 160 = .ok (.iinc 6 1, 3) := by decide +kernel
theorem dX12_kinds_163 : decode cX12_kinds 163 = .ok (.goto (-95), 3) := by decide +kernel
theorem dX12_kinds_166 : decode cX12_kinds 166 = .ok (.iinc 3 1, 3) := by decide +kernel
theorem dX12_kinds_169 : decode cX12_kinds 169 = .ok (.goto (-154), 3) := by decide +kernel
theorem dX12_kinds_172 : decode cX12_kinds 172 = .ok (.iload_n 2, 1) := by decide +kernel
theorem dX12_kinds_173 : decode cX12_kinds 173 = .ok (.ireturn, 1) := by decide +kernel
theorem dX12_afternoon_0 : decode cX12_afternoon 0 = .ok (.iload_n 1, 1) := by decide +kernel
theorem dX12_afternoon_1 : decode cX12_afternoon 1 = .ok (.iconst 0, 1) := by decide +kernel
theorem dX12_afternoon_2 : decode cX12_afternoon 2 = .ok (.sipush 9999, 3) := by decide +kernel
theorem dX12_afternoon_5 : decode cX12_afternoon 5 = .ok (.invokestatic 84, 3) := by decide +kernel
theorem dX12_afternoon_8 : decode cX12_afternoon 8 = .ok (.ifCond .eq 12, 3) := by decide +kernel
theorem dX12_afternoon_11 : decode cX12_afternoon 11 = .ok (.iload_n 2, 1) := by decide +kernel
theorem dX12_afternoon_12 : decode cX12_afternoon 12 = .ok (.iconst 0, 1) := by decide +kernel
theorem dX12_afternoon_13 : decode cX12_afternoon 13 = .ok (.iconst 1, 1) := by decide +kernel
theorem dX12_afternoon_14 : decode cX12_afternoon 14 = .ok (.invokestatic 84, 3) := by decide +kernel
theorem dX12_afternoon_17 : decode cX12_afternoon 17 = .ok (.ifCond .ne 5, 3) := by decide +kernel
theorem dX12_afternoon_20 : decode cX12_afternoon 20 = .ok (.iconst (-1), 1) := by decide +kernel
theorem dX12_afternoon_21 : decode cX12_afternoon 21 = .ok (.ireturn, 1) := by decide +kernel
theorem dX12_afternoon_22 : decode cX12_afternoon 22 = .ok (.iconst 0, 1) := by decide +kernel
theorem dX12_afternoon_23 : decode cX12_afternoon 23 = .ok (.istore_n 3, 1) := by decide +kernel
theorem dX12_afternoon_24 : decode cX12_afternoon 24 = .ok (.iload_n 3, 1) := by decide +kernel
theorem dX12_afternoon_25 : decode cX12_afternoon 25 = .ok (.aload_n 0, 1) := by decide +kernel
theorem dX12_afternoon_26 : decode cX12_afternoon 26 = .ok (.getfield 75, 3) := by decide +kernel
theorem dX12_afternoon_29 : decode cX12_afternoon 29 = .ok (.if_icmp .ge 24, 3) := by decide +kernel
theorem dX12_afternoon_32 : decode cX12_afternoon 32 = .ok (.aload_n 0, 1) := by decide +kernel
theorem dX12_afternoon_33 : decode cX12_afternoon 33 = .ok (.getfield 62, 3) := by decide +kernel
theorem dX12_afternoon_36 : decode cX12_afternoon 36 = .ok (.iload_n 3, 1) := by decide +kernel
theorem dX12_afternoon_37 : decode cX12_afternoon 37 = .ok (.aload_n 0, 1) := by decide +kernel
theorem dX12_afternoon_38 : decode cX12_afternoon 38 = .ok (.getfield 13, 3) := by decide +kernel
theorem dX12_afternoon_41 : decode cX12_afternoon 41 = .ok (.bipush 15, 2) := by decide +kernel
theorem dX12_afternoon_43 : decode cX12_afternoon 43 = .ok (.iload_n 3, 1) := by decide +kernel
theorem dX12_afternoon_44 : decode cX12_afternoon 44 = .ok (.iadd, 1) := by decide +kernel
theorem dX12_afternoon_45 : decode cX12_afternoon 45 = .ok (.iaload, 1) := by decide +kernel
theorem dX12_afternoon_46 : decode cX12_afternoon 46 = .ok (.iastore, 1) := by decide +kernel
theorem dX12_afternoon_47 : decode cX12_afternoon 47 = .ok (.iinc 3 1, 3) := by decide +kernel
theorem dX12_afternoon_50 : decode cX12_afternoon 50 = .ok (.goto (-26), 3) := by decide +kernel
theorem dX12_afternoon_53 : decode cX12_afternoon 53 = .ok (.iconst 0, 1) := by decide +kernel
theorem dX12_afternoon_54 : decode cX12_afternoon 54 = .ok (.istore_n 3, 1) := by decide +kernel
theorem dX12_afternoon_55 : decode cX12_afternoon 55 = .ok (.iconst 0, 1) := by decide +kernel
theorem dX12_afternoon_56 : decode cX12_afternoon 56 = .ok (.istore 4, 2) := by decide +kernel
theorem dX12_afternoon_58 : decode cX12_afternoon 58 = .ok (.aload_n 0, 1) := by decide +kernel
theorem dX12_afternoon_59 : decode cX12_afternoon 59 = .ok (.getfield 62, 3) := by decide +kernel
theorem dX12_afternoon_62 : decode cX12_afternoon 62 = .ok (.iload_n 3, 1) := by decide +kernel
theorem dX12_afternoon_63 : decode cX12_afternoon 63 = .ok (.iaload, 1) := by decide +kernel
theorem dX12_afternoon_64 : decode cX12_afternoon 64 = .ok (.iconst 4, 1) := by decide +kernel
theorem dX12_afternoon_65 : decode cX12_afternoon 65 = .ok (.if_icmp .ge 95, 3) := by decide +kernel
theorem dX12_afternoon_68 : decode cX12_afternoon 68 = .ok (.aload_n 0, 1) := by decide +kernel
theorem dX12_afternoon_69 : decode cX12_afternoon 69 = .ok (.iload_n 3, 1) := by decide +kernel
theorem dX12_afternoon_70 : decode cX12_afternoon 70 = .ok (.invokevirtual 177, 3) := by decide +kernel
theorem dX12_afternoon_73 : decode cX12_afternoon 73 = .ok (.ldc2_w 207, 3) := by decide +kernel
theorem dX12_afternoon_76 : decode cX12_afternoon 76 = .ok (.iload_n 1, 1) := by decide +kernel
theorem dX12_afternoon_77 : decode cX12_afternoon 77 = .ok (.i2l, 1) := by decide +kernel
theorem dX12_afternoon_78 : decode cX12_afternoon 78 = .ok (.lmul, 1) := by decide +kernel
theorem dX12_afternoon_79 : decode cX12_afternoon 79 = .ok (.ldc2_w 209, 3) := by decide +kernel
theorem dX12_afternoon_82 : decode cX12_afternoon 82 = .ok (.iload 4, 2) := by decide +kernel
theorem dX12_afternoon_84 : decode cX12_afternoon 84 = .ok (.i2l, 1) := by decide +kernel
theorem dX12_afternoon_85 : decode cX12_afternoon 85 = .ok (.lmul, 1) := by decide +kernel
theorem dX12_afternoon_86 : decode cX12_afternoon 86 = .ok (.ladd, 1) := by decide +kernel
theorem dX12_afternoon_87 : decode cX12_afternoon 87 = .ok (.lconst 1, 1) := by decide +kernel
theorem dX12_afternoon_88 : decode cX12_afternoon 88 = .ok (.ladd, 1) := by decide +kernel
theorem dX12_afternoon_89 : decode cX12_afternoon 89 = .ok (.lstore 5, 2) := by decide +kernel
theorem dX12_afternoon_91 : decode cX12_afternoon 91 = .ok (.lload 5, 2) := by decide +kernel
theorem dX12_afternoon_93 : decode cX12_afternoon 93 = .ok (.lload 5, 2) := by decide +kernel
theorem dX12_afternoon_95 : decode cX12_afternoon 95 = .ok (.lmul, 1) := by decide +kernel
theorem dX12_afternoon_96 : decode cX12_afternoon 96 = .ok (.ldc2_w 211, 3) := by decide +kernel
theorem dX12_afternoon_99 : decode cX12_afternoon 99 = .ok (.lrem, 1) := by decide +kernel
theorem dX12_afternoon_100 : decode cX12_afternoon 100 = .ok (.ldc2_w 82, 3) := by decide +kernel
theorem dX12_afternoon_103 : decode cX12_afternoon 103 = .ok (.lrem, 1) := by decide +kernel
theorem dX12_afternoon_104 : decode cX12_afternoon 104 = .ok (.aload_n 0, 1) := by decide +kernel
theorem dX12_afternoon_105 : decode cX12_afternoon 105 = .ok (.getfield 34, 3) := by decide +kernel
theorem dX12_afternoon_108 : decode cX12_afternoon 108 = .ok (.aload_n 0, 1) := by decide +kernel
theorem dX12_afternoon_109 : decode cX12_afternoon 109 = .ok (.getfield 167, 3) := by decide +kernel
theorem dX12_afternoon_112 : decode cX12_afternoon 112 = .ok (.iaload, 1) := by decide +kernel
theorem dX12_afternoon_113 : decode cX12_afternoon 113 = .ok (.i2l, 1) := by decide +kernel
theorem dX12_afternoon_114 : decode cX12_afternoon 114 = .ok (.lcmp, 1) := by decide +kernel
theorem dX12_afternoon_115 : decode cX12_afternoon 115 = .ok (.ifCond .ge 7, 3) := by decide +kernel
theorem dX12_afternoon_118 : decode cX12_afternoon 118 = .ok (.iconst 1, 1) := by decide +kernel
theorem dX12_afternoon_119 : decode cX12_afternoon 119 = .ok (.goto 4, 3) := by decide +kernel
theorem dX12_afternoon_122 : decode cX12_afternoon 122 = .ok (.iconst 0, 1) := by decide +kernel
theorem dX12_afternoon_123 : decode cX12_afternoon 123 = .ok (.istore 7, 2) := by decide +kernel
theorem dX12_afternoon_125 : decode cX12_afternoon 125 = .ok (.iload 7, 2) := by decide +kernel
theorem dX12_afternoon_127 : decode cX12_afternoon 127 = .ok (.ifCond .eq 10, 3) := by decide +kernel
theorem dX12_afternoon_130 : decode cX12_afternoon 130 = .ok (.aload_n 0, 1) := by decide +kernel
theorem dX12_afternoon_131 : decode cX12_afternoon 131 = .ok (.getfield 167, 3) := by decide +kernel
theorem dX12_afternoon_134 : decode cX12_afternoon 134 = .ok (.goto 9, 3) := by decide +kernel
theorem dX12_afternoon_137 : decode cX12_afternoon 137 = .ok (.aload_n 0, 1) := by decide +kernel
theorem dX12_afternoon_138 : decode cX12_afternoon 138 = .ok (.getfield 13, 3) := by decide +kernel
theorem dX12_afternoon_141 : decode cX12_afternoon 141 = .ok (.iload_n 3, 1) := by decide +kernel
theorem dX12_afternoon_142 : decode cX12_afternoon 142 = .ok (.iaload, 1) := by decide +kernel
theorem dX12_afternoon_143 : decode cX12_afternoon 143 = .ok (.istore_n 3, 1) := by decide +kernel
theorem dX12_afternoon_144 : decode cX12_afternoon 144 = .ok (.aload_n 0, 1) := by decide +kernel
theorem dX12_afternoon_145 : decode cX12_afternoon 145 = .ok (.getfield 62, 3) := by decide +kernel
theorem dX12_afternoon_148 : decode cX12_afternoon 148 = .ok (.iload_n 3, 1) := by decide +kernel
theorem dX12_afternoon_149 : decode cX12_afternoon 149 = .ok (.dup2, 1) := by decide +kernel
theorem dX12_afternoon_150 : decode cX12_afternoon 150 = .ok (.iaload, 1) := by decide +kernel
theorem dX12_afternoon_151 : decode cX12_afternoon 151 = .ok (.iconst 1, 1) := by decide +kernel
theorem dX12_afternoon_152 : decode cX12_afternoon 152 = .ok (.iadd, 1) := by decide +kernel
theorem dX12_afternoon_153 : decode cX12_afternoon 153 = .ok (.iastore, 1) := by decide +kernel
theorem dX12_afternoon_154 : decode cX12_afternoon 154 = .ok (.iinc 4 1, 3) := by decide +kernel
theorem dX12_afternoon_157 : decode cX12_afternoon 157 = .ok (.goto (-99), 3) := by decide +kernel
theorem dX12_afternoon_160 : decode cX12_afternoon 160 = .ok (.iload_n 2, 1) := by decide +kernel
theorem dX12_afternoon_161 : decode cX12_afternoon 161 = .ok (.ifCond .ne 7, 3) := by decide +kernel
theorem dX12_afternoon_164 : decode cX12_afternoon 164 = .ok (.iload_n 3, 1) := by decide +kernel
theorem dX12_afternoon_165 : decode cX12_afternoon 165 = .ok (.goto 5, 3) := by decide +kernel
theorem dX12_afternoon_168 : decode cX12_afternoon 168 = .ok (.iload 4, 2) := by decide +kernel
theorem dX12_afternoon_170 : decode cX12_afternoon 170 = .ok (.ireturn, 1) := by decide +kernel
theorem dX12_keep_0 : decode cX12_keep 0 = .ok (.aload_n 0, 1) := by decide +kernel
theorem dX12_keep_1 : decode cX12_keep 1 = .ok (.getfield 147, 3) := by decide +kernel
theorem dX12_keep_4 : decode cX12_keep 4 = .ok (.iconst 2, 1) := by decide +kernel
theorem dX12_keep_5 : decode cX12_keep 5 = .ok (.if_icmp .ne 6, 3) := by decide +kernel
theorem dX12_keep_8 : decode cX12_keep 8 = .ok (.bipush (-3), 2) := by decide +kernel
theorem dX12_keep_10 : decode cX12_keep 10 = .ok (.ireturn, 1) := by decide +kernel
theorem dX12_keep_11 : decode cX12_keep 11 = .ok (.iconst 0, 1) := by decide +kernel
theorem dX12_keep_12 : decode cX12_keep 12 = .ok (.istore_n 1, 1) := by decide +kernel
theorem dX12_keep_13 : decode cX12_keep 13 = .ok (.iload_n 1, 1) := by decide +kernel
theorem dX12_keep_14 : decode cX12_keep 14 = .ok (.bipush 20, 2) := by decide +kernel
theorem dX12_keep_16 : decode cX12_keep 16 = .ok (.if_icmp .ge 29, 3) := by decide +kernel
theorem dX12_keep_19 : decode cX12_keep 19 = .ok (.aload_n 0, 1) := by decide +kernel
theorem dX12_keep_20 : decode cX12_keep 20 = .ok (.getfield 65, 3) := by decide +kernel
theorem dX12_keep_23 : decode cX12_keep 23 = .ok (.bipush 20, 2) := by decide +kernel
theorem dX12_keep_25 : decode cX12_keep 25 = .ok (.aload_n 0, 1) := by decide +kernel
theorem dX12_keep_26 : decode cX12_keep 26 = .ok (.getfield 147, 3) := by decide +kernel
theorem dX12_keep_29 : decode cX12_keep 29 = .ok (.imul, 1) := by decide +kernel
theorem dX12_keep_30 : decode cX12_keep 30 = .ok (.iload_n 1, 1) := by decide +kernel
theorem dX12_keep_31 : decode cX12_keep 31 = .ok (.iadd, 1) := by decide +kernel
theorem dX12_keep_32 : decode cX12_keep 32 = .ok (.aload_n 0, 1) := by decide +kernel
theorem dX12_keep_33 : decode cX12_keep 33 = .ok (.getfield 13, 3) := by decide +kernel
theorem dX12_keep_36 : decode cX12_keep 36 = .ok (.iload_n 1, 1) := by decide +kernel
theorem dX12_keep_37 : decode cX12_keep 37 = .ok (.iaload, 1) := by decide +kernel
theorem dX12_keep_38 : decode cX12_keep 38 = .ok (.iastore, 1) := by decide +kernel
theorem dX12_keep_39 : decode cX12_keep 39 = .ok (.iinc 1 1, 3) := by decide +kernel
theorem dX12_keep_42 : decode cX12_keep 42 = .ok (.goto (-29), 3) := by decide +kernel
theorem dX12_keep_45 : decode cX12_keep 45 = .ok (.aload_n 0, 1) := by decide +kernel
theorem dX12_keep_46 : decode cX12_keep 46 = .ok (.dup, 1) := by decide +kernel
theorem dX12_keep_47 : decode cX12_keep 47 = .ok (.getfield 147, 3) := by decide +kernel
theorem dX12_keep_50 : decode cX12_keep 50 = .ok (.iconst 1, 1) := by decide +kernel
theorem dX12_keep_51 : decode cX12_keep 51 = .ok (.iadd, 1) := by decide +kernel
theorem dX12_keep_52 : decode cX12_keep 52 = .ok (.putfield 147, 3) := by decide +kernel
theorem dX12_keep_55 : decode cX12_keep 55 = .ok (.aload_n 0, 1) := by decide +kernel
theorem dX12_keep_56 : decode cX12_keep 56 = .ok (.getfield 147, 3) := by decide +kernel
theorem dX12_keep_59 : decode cX12_keep 59 = .ok (.ireturn, 1) := by decide +kernel
theorem dX12_back_0 : decode cX12_back 0 = .ok (.aload_n 0, 1) := by decide +kernel
theorem dX12_back_1 : decode cX12_back 1 = .ok (.getfield 147, 3) := by decide +kernel
theorem dX12_back_4 : decode cX12_back 4 = .ok (.ifCond .ne 6, 3) := by decide +kernel
theorem dX12_back_7 : decode cX12_back 7 = .ok (.bipush (-2), 2) := by decide +kernel
theorem dX12_back_9 : decode cX12_back 9 = .ok (.ireturn, 1) := by decide +kernel
theorem dX12_back_10 : decode cX12_back 10 = .ok (.aload_n 0, 1) := by decide +kernel
theorem dX12_back_11 : decode cX12_back 11 = .ok (.dup, 1) := by decide +kernel
theorem dX12_back_12 : decode cX12_back 12 = .ok (.getfield 147, 3) := by decide +kernel
theorem dX12_back_15 : decode cX12_back 15 = .ok (.iconst 1, 1) := by decide +kernel
theorem dX12_back_16 : decode cX12_back 16 = .ok (.isub, 1) := by decide +kernel
theorem dX12_back_17 : decode cX12_back 17 = .ok (.putfield 147, 3) := by decide +kernel
theorem dX12_back_20 : decode cX12_back 20 = .ok (.iconst 0, 1) := by decide +kernel
theorem dX12_back_21 : decode cX12_back 21 = .ok (.istore_n 1, 1) := by decide +kernel
theorem dX12_back_22 : decode cX12_back 22 = .ok (.iload_n 1, 1) := by decide +kernel
theorem dX12_back_23 : decode cX12_back 23 = .ok (.bipush 20, 2) := by decide +kernel
theorem dX12_back_25 : decode cX12_back 25 = .ok (.if_icmp .ge 29, 3) := by decide +kernel
theorem dX12_back_28 : decode cX12_back 28 = .ok (.aload_n 0, 1) := by decide +kernel
theorem dX12_back_29 : decode cX12_back 29 = .ok (.getfield 13, 3) := by decide +kernel
theorem dX12_back_32 : decode cX12_back 32 = .ok (.iload_n 1, 1) := by decide +kernel
theorem dX12_back_33 : decode cX12_back 33 = .ok (.aload_n 0, 1) := by decide +kernel
theorem dX12_back_34 : decode cX12_back 34 = .ok (.getfield 65, 3) := by decide +kernel
theorem dX12_back_37 : decode cX12_back 37 = .ok (.bipush 20, 2) := by decide +kernel
theorem dX12_back_39 : decode cX12_back 39 = .ok (.aload_n 0, 1) := by decide +kernel
theorem dX12_back_40 : decode cX12_back 40 = .ok (.getfield 147, 3) := by decide +kernel
theorem dX12_back_43 : decode cX12_back 43 = .ok (.imul, 1) := by decide +kernel
theorem dX12_back_44 : decode cX12_back 44 = .ok (.iload_n 1, 1) := by decide +kernel
theorem dX12_back_45 : decode cX12_back 45 = .ok (.iadd, 1) := by decide +kernel
theorem dX12_back_46 : decode cX12_back 46 = .ok (.iaload, 1) := by decide +kernel
theorem dX12_back_47 : decode cX12_back 47 = .ok (.iastore, 1) := by decide +kernel
theorem dX12_back_48 : decode cX12_back 48 = .ok (.iinc 1 1, 3) := by decide +kernel
theorem dX12_back_51 : decode cX12_back 51 = .ok (.goto (-29), 3) := by decide +kernel
theorem dX12_back_54 : decode cX12_back 54 = .ok (.aload_n 0, 1) := by decide +kernel
theorem dX12_back_55 : decode cX12_back 55 = .ok (.iconst 0, 1) := by decide +kernel
theorem dX12_back_56 : decode cX12_back 56 = .ok (.putfield 144, 3) := by decide +kernel
theorem dX12_back_59 : decode cX12_back 59 = .ok (.aload_n 0, 1) := by decide +kernel
theorem dX12_back_60 : decode cX12_back 60 = .ok (.getfield 147, 3) := by decide +kernel
theorem dX12_back_63 : decode cX12_back 63 = .ok (.ireturn, 1) := by decide +kernel
theorem dX12_count_0 : decode cX12_count 0 = .ok (.iload_n 1, 1) := by decide +kernel
theorem dX12_count_1 : decode cX12_count 1 = .ok (.tableswitch 78 0 6 #[43, 48, 53, 58, 63, 68, 73], 43) := by decide +kernel
theorem dX12_count_44 : decode cX12_count 44 = .ok (.aload_n 0, 1) := by decide +kernel
theorem dX12_count_45 : decode cX12_count 45 = .ok (.getfield 75, 3) := by decide +kernel
theorem dX12_count_48 : decode cX12_count 48 = .ok (.ireturn, 1) := by decide +kernel
theorem dX12_count_49 : decode cX12_count 49 = .ok (.aload_n 0, 1) := by decide +kernel
theorem dX12_count_50 : decode cX12_count 50 = .ok (.getfield 68, 3) := by decide +kernel
theorem dX12_count_53 : decode cX12_count 53 = .ok (.ireturn, 1) := by decide +kernel
theorem dX12_count_54 : decode cX12_count 54 = .ok (.aload_n 0, 1) := by decide +kernel
theorem dX12_count_55 : decode cX12_count 55 = .ok (.getfield 72, 3) := by decide +kernel
theorem dX12_count_58 : decode cX12_count 58 = .ok (.ireturn, 1) := by decide +kernel
theorem dX12_count_59 : decode cX12_count 59 = .ok (.aload_n 0, 1) := by decide +kernel
theorem dX12_count_60 : decode cX12_count 60 = .ok (.getfield 141, 3) := by decide +kernel
theorem dX12_count_63 : decode cX12_count 63 = .ok (.ireturn, 1) := by decide +kernel
theorem dX12_count_64 : decode cX12_count 64 = .ok (.aload_n 0, 1) := by decide +kernel
theorem dX12_count_65 : decode cX12_count 65 = .ok (.getfield 144, 3) := by decide +kernel
theorem dX12_count_68 : decode cX12_count 68 = .ok (.ireturn, 1) := by decide +kernel
theorem dX12_count_69 : decode cX12_count 69 = .ok (.aload_n 0, 1) := by decide +kernel
theorem dX12_count_70 : decode cX12_count 70 = .ok (.getfield 147, 3) := by decide +kernel
theorem dX12_count_73 : decode cX12_count 73 = .ok (.ireturn, 1) := by decide +kernel
theorem dX12_count_74 : decode cX12_count 74 = .ok (.aload_n 0, 1) := by decide +kernel
theorem dX12_count_75 : decode cX12_count 75 = .ok (.getfield 88, 3) := by decide +kernel
theorem dX12_count_78 : decode cX12_count 78 = .ok (.ireturn, 1) := by decide +kernel
theorem dX12_count_79 : decode cX12_count 79 = .ok (.iconst (-1), 1) := by decide +kernel
theorem dX12_count_80 : decode cX12_count 80 = .ok (.ireturn, 1) := by decide +kernel
theorem dJ9_abs_0f7a4_0 : decode cJ9_abs_0f7a4 0 = .ok (.iload_n 0, 1) := by decide +kernel
theorem dJ9_abs_0f7a4_1 : decode cJ9_abs_0f7a4 1 = .ok (.ifCond .ge 8, 3) := by decide +kernel
theorem dJ9_abs_0f7a4_4 : decode cJ9_abs_0f7a4 4 = .ok (.iload_n 0, 1) := by decide +kernel
theorem dJ9_abs_0f7a4_5 : decode cJ9_abs_0f7a4 5 = .ok (.ineg, 1) := by decide +kernel
theorem dJ9_abs_0f7a4_6 : decode cJ9_abs_0f7a4 6 = .ok (.goto 4, 3) := by decide +kernel
theorem dJ9_abs_0f7a4_9 : decode cJ9_abs_0f7a4 9 = .ok (.iload_n 0, 1) := by decide +kernel
theorem dJ9_abs_0f7a4_10 : decode cJ9_abs_0f7a4 10 = .ok (.ireturn, 1) := by decide +kernel
theorem dJ9_max_7cf53_0 : decode cJ9_max_7cf53 0 = .ok (.iload_n 0, 1) := by decide +kernel
theorem dJ9_max_7cf53_1 : decode cJ9_max_7cf53 1 = .ok (.iload_n 1, 1) := by decide +kernel
theorem dJ9_max_7cf53_2 : decode cJ9_max_7cf53 2 = .ok (.if_icmp .lt 7, 3) := by decide +kernel
theorem dJ9_max_7cf53_5 : decode cJ9_max_7cf53 5 = .ok (.iload_n 0, 1) := by decide +kernel
theorem dJ9_max_7cf53_6 : decode cJ9_max_7cf53 6 = .ok (.goto 4, 3) := by decide +kernel
theorem dJ9_max_7cf53_9 : decode cJ9_max_7cf53 9 = .ok (.iload_n 1, 1) := by decide +kernel
theorem dJ9_max_7cf53_10 : decode cJ9_max_7cf53 10 = .ok (.ireturn, 1) := by decide +kernel
theorem dJ9_min_7cf53_0 : decode cJ9_min_7cf53 0 = .ok (.iload_n 0, 1) := by decide +kernel
theorem dJ9_min_7cf53_1 : decode cJ9_min_7cf53 1 = .ok (.iload_n 1, 1) := by decide +kernel
theorem dJ9_min_7cf53_2 : decode cJ9_min_7cf53 2 = .ok (.if_icmp .gt 7, 3) := by decide +kernel
theorem dJ9_min_7cf53_5 : decode cJ9_min_7cf53 5 = .ok (.iload_n 0, 1) := by decide +kernel
theorem dJ9_min_7cf53_6 : decode cJ9_min_7cf53 6 = .ok (.goto 4, 3) := by decide +kernel
theorem dJ9_min_7cf53_9 : decode cJ9_min_7cf53 9 = .ok (.iload_n 1, 1) := by decide +kernel
theorem dJ9_min_7cf53_10 : decode cJ9_min_7cf53 10 = .ok (.ireturn, 1) := by decide +kernel
theorem dJ7_fill_d0a16_0 : decode cJ7_fill_d0a16 0 = .ok (.iconst 0, 1) := by decide +kernel
theorem dJ7_fill_d0a16_1 : decode cJ7_fill_d0a16 1 = .ok (.istore_n 3, 1) := by decide +kernel
theorem dJ7_fill_d0a16_2 : decode cJ7_fill_d0a16 2 = .ok (.aload_n 0, 1) := by decide +kernel
theorem dJ7_fill_d0a16_3 : decode cJ7_fill_d0a16 3 = .ok (.arraylength, 1) := by decide +kernel
theorem dJ7_fill_d0a16_4 : decode cJ7_fill_d0a16 4 = .ok (.istore 4, 2) := by decide +kernel
theorem dJ7_fill_d0a16_6 : decode cJ7_fill_d0a16 6 = .ok (.iload_n 3, 1) := by decide +kernel
theorem dJ7_fill_d0a16_7 : decode cJ7_fill_d0a16 7 = .ok (.iload 4, 2) := by decide +kernel
theorem dJ7_fill_d0a16_9 : decode cJ7_fill_d0a16 9 = .ok (.if_icmp .ge 13, 3) := by decide +kernel
theorem dJ7_fill_d0a16_12 : decode cJ7_fill_d0a16 12 = .ok (.aload_n 0, 1) := by decide +kernel
theorem dJ7_fill_d0a16_13 : decode cJ7_fill_d0a16 13 = .ok (.iload_n 3, 1) := by decide +kernel
theorem dJ7_fill_d0a16_14 : decode cJ7_fill_d0a16 14 = .ok (.lload_n 1, 1) := by decide +kernel
theorem dJ7_fill_d0a16_15 : decode cJ7_fill_d0a16 15 = .ok (.lastore, 1) := by decide +kernel
theorem dJ7_fill_d0a16_16 : decode cJ7_fill_d0a16 16 = .ok (.iinc 3 1, 3) := by decide +kernel
theorem dJ7_fill_d0a16_19 : decode cJ7_fill_d0a16 19 = .ok (.goto (-13), 3) := by decide +kernel
theorem dJ7_fill_d0a16_22 : decode cJ7_fill_d0a16 22 = .ok (.return_, 1) := by decide +kernel
theorem dL_law_0 : decode cL_law 0 = .ok (.new 7, 3) := by decide +kernel
theorem dL_law_3 : decode cL_law 3 = .ok (.dup, 1) := by decide +kernel
theorem dL_law_4 : decode cL_law 4 = .ok (.invokespecial 9, 3) := by decide +kernel
theorem dL_law_7 : decode cL_law 7 = .ok (.astore_n 1, 1) := by decide +kernel
theorem dL_law_8 : decode cL_law 8 = .ok (.new 10, 3) := by decide +kernel
theorem dL_law_11 : decode cL_law 11 = .ok (.dup, 1) := by decide +kernel
theorem dL_law_12 : decode cL_law 12 = .ok (.invokespecial 12, 3) := by decide +kernel
theorem dL_law_15 : decode cL_law 15 = .ok (.astore_n 2, 1) := by decide +kernel
theorem dL_law_16 : decode cL_law 16 = .ok (.iconst 0, 1) := by decide +kernel
theorem dL_law_17 : decode cL_law 17 = .ok (.istore_n 3, 1) := by decide +kernel
theorem dL_law_18 : decode cL_law 18 = .ok (.iload_n 3, 1) := by decide +kernel
theorem dL_law_19 : decode cL_law 19 = .ok (.aload_n 0, 1) := by decide +kernel
theorem dL_law_20 : decode cL_law 20 = .ok (.arraylength, 1) := by decide +kernel
theorem dL_law_21 : decode cL_law 21 = .ok (.iconst 5, 1) := by decide +kernel
theorem dL_law_22 : decode cL_law 22 = .ok (.isub, 1) := by decide +kernel
theorem dL_law_23 : decode cL_law 23 = .ok (.if_icmp .gt 841, 3) := by decide +kernel
theorem dL_law_26 : decode cL_law 26 = .ok (.aload_n 0, 1) := by decide +kernel
theorem dL_law_27 : decode cL_law 27 = .ok (.iload_n 3, 1) := by decide +kernel
theorem dL_law_28 : decode cL_law 28 = .ok (.iaload, 1) := by decide +kernel
theorem dL_law_29 : decode cL_law 29 = .ok (.bipush 31, 2) := by decide +kernel
theorem dL_law_31 : decode cL_law 31 = .ok (.iand, 1) := by decide +kernel
theorem dL_law_32 : decode cL_law 32 = .ok (.tableswitch 826 0 23 #[112, 175, 188, 201, 214, 247, 280, 313, 346, 379, 412, 445, 488, 532, 566, 619, 652, 665, 708, 721, 744, 777, 790, 803], 112) := by decide +kernel
theorem dL_law_144 : decode cL_law 144 = .ok (.aload_n 1, 1) := by decide +kernel
theorem dL_law_145 : decode cL_law 145 = .ok (.aload_n 0, 1) := by decide +kernel
theorem dL_law_146 : decode cL_law 146 = .ok (.iload_n 3, 1) := by decide +kernel
theorem dL_law_147 : decode cL_law 147 = .ok (.iconst 1, 1) := by decide +kernel
theorem dL_law_148 : decode cL_law 148 = .ok (.iadd, 1) := by decide +kernel
theorem dL_law_149 : decode cL_law 149 = .ok (.iaload, 1) := by decide +kernel
theorem dL_law_150 : decode cL_law 150 = .ok (.aload_n 0, 1) := by decide +kernel
theorem dL_law_151 : decode cL_law 151 = .ok (.iload_n 3, 1) := by decide +kernel
theorem dL_law_152 : decode cL_law 152 = .ok (.iconst 2, 1) := by decide +kernel
theorem dL_law_153 : decode cL_law 153 = .ok (.iadd, 1) := by decide +kernel
theorem dL_law_154 : decode cL_law 154 = .ok (.iaload, 1) := by decide +kernel
theorem dL_law_155 : decode cL_law 155 = .ok (.i2l, 1) := by decide +kernel
theorem dL_law_156 : decode cL_law 156 = .ok (.bipush 32, 2) := by decide +kernel
theorem dL_law_158 : decode cL_law 158 = .ok (.lshl, 1) := by decide +kernel
theorem dL_law_159 : decode cL_law 159 = .ok (.aload_n 0, 1) := by decide +kernel
theorem dL_law_160 : decode cL_law 160 = .ok (.iload_n 3, 1) := by decide +kernel
theorem dL_law_161 : decode cL_law 161 = .ok (.iconst 3, 1) := by decide +kernel
theorem dL_law_162 : decode cL_law 162 = .ok (.iadd, 1) := by decide +kernel
theorem dL_law_163 : decode cL_law 163 = .ok (.iaload, 1) := by decide +kernel
theorem dL_law_164 : decode cL_law 164 = .ok (.i2l, 1) := by decide +kernel
theorem dL_law_165 : decode cL_law 165 = .ok (.ldc2_w 13, 3) := by decide +kernel
theorem dL_law_168 : decode cL_law 168 = .ok (.land, 1) := by decide +kernel
theorem dL_law_169 : decode cL_law 169 = .ok (.lor, 1) := by decide +kernel
theorem dL_law_170 : decode cL_law 170 = .ok (.invokevirtual 15, 3) := by decide +kernel
theorem dL_law_173 : decode cL_law 173 = .ok (.aload_n 2, 1) := by decide +kernel
theorem dL_law_174 : decode cL_law 174 = .ok (.aload_n 0, 1) := by decide +kernel
theorem dL_law_175 : decode cL_law 175 = .ok (.iload_n 3, 1) := by decide +kernel
theorem dL_law_176 : decode cL_law 176 = .ok (.iconst 1, 1) := by decide +kernel
theorem dL_law_177 : decode cL_law 177 = .ok (.iadd, 1) := by decide +kernel
theorem dL_law_178 : decode cL_law 178 = .ok (.iaload, 1) := by decide +kernel
theorem dL_law_179 : decode cL_law 179 = .ok (.aload_n 0, 1) := by decide +kernel
theorem dL_law_180 : decode cL_law 180 = .ok (.iload_n 3, 1) := by decide +kernel
theorem dL_law_181 : decode cL_law 181 = .ok (.iconst 2, 1) := by decide +kernel
theorem dL_law_182 : decode cL_law 182 = .ok (.iadd, 1) := by decide +kernel
theorem dL_law_183 : decode cL_law 183 = .ok (.iaload, 1) := by decide +kernel
theorem dL_law_184 : decode cL_law 184 = .ok (.i2l, 1) := by decide +kernel
theorem dL_law_185 : decode cL_law 185 = .ok (.bipush 32, 2) := by decide +kernel
theorem dL_law_187 : decode cL_law 187 = .ok (.lshl, 1) := by decide +kernel
theorem dL_law_188 : decode cL_law 188 = .ok (.aload_n 0, 1) := by decide +kernel
theorem dL_law_189 : decode cL_law 189 = .ok (.iload_n 3, 1) := by decide +kernel
theorem dL_law_190 : decode cL_law 190 = .ok (.iconst 3, 1) := by decide +kernel
theorem dL_law_191 : decode cL_law 191 = .ok (.iadd, 1) := by decide +kernel
theorem dL_law_192 : decode cL_law 192 = .ok (.iaload, 1) := by decide +kernel
theorem dL_law_193 : decode cL_law 193 = .ok (.i2l, 1) := by decide +kernel
theorem dL_law_194 : decode cL_law 194 = .ok (.ldc2_w 13, 3) := by decide +kernel
theorem dL_law_197 : decode cL_law 197 = .ok (.land, 1) := by decide +kernel
theorem dL_law_198 : decode cL_law 198 = .ok (.lor, 1) := by decide +kernel
theorem dL_law_199 : decode cL_law 199 = .ok (.invokevirtual 19, 3) := by decide +kernel
theorem dL_law_202 : decode cL_law 202 = .ok (.if_icmp .eq 656, 3) := by decide +kernel
theorem dL_law_205 : decode cL_law 205 = .ok (.iconst 0, 1) := by decide +kernel
theorem dL_law_206 : decode cL_law 206 = .ok (.ireturn, 1) := by decide +kernel
theorem dL_law_207 : decode cL_law 207 = .ok (.aload_n 1, 1) := by decide +kernel
theorem dL_law_208 : decode cL_law 208 = .ok (.invokevirtual 20, 3) := by decide +kernel
theorem dL_law_211 : decode cL_law 211 = .ok (.aload_n 2, 1) := by decide +kernel
theorem dL_law_212 : decode cL_law 212 = .ok (.invokevirtual 24, 3) := by decide +kernel
theorem dL_law_215 : decode cL_law 215 = .ok (.if_icmp .eq 643, 3) := by decide +kernel
theorem dL_law_218 : decode cL_law 218 = .ok (.iconst 0, 1) := by decide +kernel
theorem dL_law_219 : decode cL_law 219 = .ok (.ireturn, 1) := by decide +kernel
theorem dL_law_220 : decode cL_law 220 = .ok (.aload_n 1, 1) := by decide +kernel
theorem dL_law_221 : decode cL_law 221 = .ok (.invokevirtual 25, 3) := by decide +kernel
theorem dL_law_224 : decode cL_law 224 = .ok (.aload_n 2, 1) := by decide +kernel
theorem dL_law_225 : decode cL_law 225 = .ok (.invokevirtual 28, 3) := by decide +kernel
theorem dL_law_228 : decode cL_law 228 = .ok (.if_icmp .eq 630, 3) := by decide +kernel
theorem dL_law_231 : decode cL_law 231 = .ok (.iconst 0, 1) := by decide +kernel
theorem dL_law_232 : decode cL_law 232 = .ok (.ireturn, 1) := by decide +kernel
theorem dL_law_233 : decode cL_law 233 = .ok (.aload_n 1, 1) := by decide +kernel
theorem dL_law_234 : decode cL_law 234 = .ok (.invokevirtual 29, 3) := by decide +kernel
theorem dL_law_237 : decode cL_law 237 = .ok (.aload_n 2, 1) := by decide +kernel
theorem dL_law_238 : decode cL_law 238 = .ok (.invokevirtual 32, 3) := by decide +kernel
theorem dL_law_241 : decode cL_law 241 = .ok (.if_icmp .eq 617, 3) := by decide +kernel
theorem dL_law_244 : decode cL_law 244 = .ok (.iconst 0, 1) := by decide +kernel
theorem dL_law_245 : decode cL_law 245 = .ok (.ireturn, 1) := by decide +kernel
theorem dL_law_246 : decode cL_law 246 = .ok (.aload_n 1, 1) := by decide +kernel
theorem dL_law_247 : decode cL_law 247 = .ok (.aload_n 0, 1) := by decide +kernel
theorem dL_law_248 : decode cL_law 248 = .ok (.iload_n 3, 1) := by decide +kernel
theorem dL_law_249 : decode cL_law 249 = .ok (.iconst 1, 1) := by decide +kernel
theorem dL_law_250 : decode cL_law 250 = .ok (.iadd, 1) := by decide +kernel
theorem dL_law_251 : decode cL_law 251 = .ok (.iaload, 1) := by decide +kernel
theorem dL_law_252 : decode cL_law 252 = .ok (.aload_n 0, 1) := by decide +kernel
theorem dL_law_253 : decode cL_law 253 = .ok (.iload_n 3, 1) := by decide +kernel
theorem dL_law_254 : decode cL_law 254 = .ok (.iconst 2, 1) := by decide +kernel
theorem dL_law_255 : decode cL_law 255 = .ok (.iadd, 1) := by decide +kernel
theorem dL_law_256 : decode cL_law 256 = .ok (.iaload, 1) := by decide +kernel
theorem dL_law_257 : decode cL_law 257 = .ok (.invokevirtual 33, 3) := by decide +kernel
theorem dL_law_260 : decode cL_law 260 = .ok (.aload_n 2, 1) := by decide +kernel
theorem dL_law_261 : decode cL_law 261 = .ok (.aload_n 0, 1) := by decide +kernel
theorem dL_law_262 : decode cL_law 262 = .ok (.iload_n 3, 1) := by decide +kernel
theorem dL_law_263 : decode cL_law 263 = .ok (.iconst 1, 1) := by decide +kernel
theorem dL_law_264 : decode cL_law 264 = .ok (.iadd, 1) := by decide +kernel
theorem dL_law_265 : decode cL_law 265 = .ok (.iaload, 1) := by decide +kernel
theorem dL_law_266 : decode cL_law 266 = .ok (.aload_n 0, 1) := by decide +kernel
theorem dL_law_267 : decode cL_law 267 = .ok (.iload_n 3, 1) := by decide +kernel
theorem dL_law_268 : decode cL_law 268 = .ok (.iconst 2, 1) := by decide +kernel
theorem dL_law_269 : decode cL_law 269 = .ok (.iadd, 1) := by decide +kernel
theorem dL_law_270 : decode cL_law 270 = .ok (.iaload, 1) := by decide +kernel
theorem dL_law_271 : decode cL_law 271 = .ok (.invokevirtual 37, 3) := by decide +kernel
theorem dL_law_274 : decode cL_law 274 = .ok (.if_icmp .eq 584, 3) := by decide +kernel
theorem dL_law_277 : decode cL_law 277 = .ok (.iconst 0, 1) := by decide +kernel
theorem dL_law_278 : decode cL_law 278 = .ok (.ireturn, 1) := by decide +kernel
theorem dL_law_279 : decode cL_law 279 = .ok (.aload_n 1, 1) := by decide +kernel
theorem dL_law_280 : decode cL_law 280 = .ok (.aload_n 0, 1) := by decide +kernel
theorem dL_law_281 : decode cL_law 281 = .ok (.iload_n 3, 1) := by decide +kernel
theorem dL_law_282 : decode cL_law 282 = .ok (.iconst 1, 1) := by decide +kernel
theorem dL_law_283 : decode cL_law 283 = .ok (.iadd, 1) := by decide +kernel
theorem dL_law_284 : decode cL_law 284 = .ok (.iaload, 1) := by decide +kernel
theorem dL_law_285 : decode cL_law 285 = .ok (.aload_n 0, 1) := by decide +kernel
theorem dL_law_286 : decode cL_law 286 = .ok (.iload_n 3, 1) := by decide +kernel
theorem dL_law_287 : decode cL_law 287 = .ok (.iconst 2, 1) := by decide +kernel
theorem dL_law_288 : decode cL_law 288 = .ok (.iadd, 1) := by decide +kernel
theorem dL_law_289 : decode cL_law 289 = .ok (.iaload, 1) := by decide +kernel
theorem dL_law_290 : decode cL_law 290 = .ok (.invokevirtual 38, 3) := by decide +kernel
theorem dL_law_293 : decode cL_law 293 = .ok (.aload_n 2, 1) := by decide +kernel
theorem dL_law_294 : decode cL_law 294 = .ok (.aload_n 0, 1) := by decide +kernel
theorem dL_law_295 : decode cL_law 295 = .ok (.iload_n 3, 1) := by decide +kernel
theorem dL_law_296 : decode cL_law 296 = .ok (.iconst 1, 1) := by decide +kernel
theorem dL_law_297 : decode cL_law 297 = .ok (.iadd, 1) := by decide +kernel
theorem dL_law_298 : decode cL_law 298 = .ok (.iaload, 1) := by decide +kernel
theorem dL_law_299 : decode cL_law 299 = .ok (.aload_n 0, 1) := by decide +kernel
theorem dL_law_300 : decode cL_law 300 = .ok (.iload_n 3, 1) := by decide +kernel
theorem dL_law_301 : decode cL_law 301 = .ok (.iconst 2, 1) := by decide +kernel
theorem dL_law_302 : decode cL_law 302 = .ok (.iadd, 1) := by decide +kernel
theorem dL_law_303 : decode cL_law 303 = .ok (.iaload, 1) := by decide +kernel
theorem dL_law_304 : decode cL_law 304 = .ok (.invokevirtual 41, 3) := by decide +kernel
theorem dL_law_307 : decode cL_law 307 = .ok (.if_icmp .eq 551, 3) := by decide +kernel
theorem dL_law_310 : decode cL_law 310 = .ok (.iconst 0, 1) := by decide +kernel
theorem dL_law_311 : decode cL_law 311 = .ok (.ireturn, 1) := by decide +kernel
theorem dL_law_312 : decode cL_law 312 = .ok (.aload_n 1, 1) := by decide +kernel
theorem dL_law_313 : decode cL_law 313 = .ok (.aload_n 0, 1) := by decide +kernel
theorem dL_law_314 : decode cL_law 314 = .ok (.iload_n 3, 1) := by decide +kernel
theorem dL_law_315 : decode cL_law 315 = .ok (.iconst 1, 1) := by decide +kernel
theorem dL_law_316 : decode cL_law 316 = .ok (.iadd, 1) := by decide +kernel
theorem dL_law_317 : decode cL_law 317 = .ok (.iaload, 1) := by decide +kernel
theorem dL_law_318 : decode cL_law 318 = .ok (.aload_n 0, 1) := by decide +kernel
theorem dL_law_319 : decode cL_law 319 = .ok (.iload_n 3, 1) := by decide +kernel
theorem dL_law_320 : decode cL_law 320 = .ok (.iconst 2, 1) := by decide +kernel
theorem dL_law_321 : decode cL_law 321 = .ok (.iadd, 1) := by decide +kernel
theorem dL_law_322 : decode cL_law 322 = .ok (.iaload, 1) := by decide +kernel
theorem dL_law_323 : decode cL_law 323 = .ok (.invokevirtual 42, 3) := by decide +kernel
theorem dL_law_326 : decode cL_law 326 = .ok (.aload_n 2, 1) := by decide +kernel
theorem dL_law_327 : decode cL_law 327 = .ok (.aload_n 0, 1) := by decide +kernel
theorem dL_law_328 : decode cL_law 328 = .ok (.iload_n 3, 1) := by decide +kernel
theorem dL_law_329 : decode cL_law 329 = .ok (.iconst 1, 1) := by decide +kernel
theorem dL_law_330 : decode cL_law 330 = .ok (.iadd, 1) := by decide +kernel
theorem dL_law_331 : decode cL_law 331 = .ok (.iaload, 1) := by decide +kernel
theorem dL_law_332 : decode cL_law 332 = .ok (.aload_n 0, 1) := by decide +kernel
theorem dL_law_333 : decode cL_law 333 = .ok (.iload_n 3, 1) := by decide +kernel
theorem dL_law_334 : decode cL_law 334 = .ok (.iconst 2, 1) := by decide +kernel
theorem dL_law_335 : decode cL_law 335 = .ok (.iadd, 1) := by decide +kernel
theorem dL_law_336 : decode cL_law 336 = .ok (.iaload, 1) := by decide +kernel
theorem dL_law_337 : decode cL_law 337 = .ok (.invokevirtual 45, 3) := by decide +kernel
theorem dL_law_340 : decode cL_law 340 = .ok (.if_icmp .eq 518, 3) := by decide +kernel
theorem dL_law_343 : decode cL_law 343 = .ok (.iconst 0, 1) := by decide +kernel
theorem dL_law_344 : decode cL_law 344 = .ok (.ireturn, 1) := by decide +kernel
theorem dL_law_345 : decode cL_law 345 = .ok (.aload_n 1, 1) := by decide +kernel
theorem dL_law_346 : decode cL_law 346 = .ok (.aload_n 0, 1) := by decide +kernel
theorem dL_law_347 : decode cL_law 347 = .ok (.iload_n 3, 1) := by decide +kernel
theorem dL_law_348 : decode cL_law 348 = .ok (.iconst 1, 1) := by decide +kernel
theorem dL_law_349 : decode cL_law 349 = .ok (.iadd, 1) := by decide +kernel
theorem dL_law_350 : decode cL_law 350 = .ok (.iaload, 1) := by decide +kernel
theorem dL_law_351 : decode cL_law 351 = .ok (.aload_n 0, 1) := by decide +kernel
theorem dL_law_352 : decode cL_law 352 = .ok (.iload_n 3, 1) := by decide +kernel
theorem dL_law_353 : decode cL_law 353 = .ok (.iconst 2, 1) := by decide +kernel
theorem dL_law_354 : decode cL_law 354 = .ok (.iadd, 1) := by decide +kernel
theorem dL_law_355 : decode cL_law 355 = .ok (.iaload, 1) := by decide +kernel
theorem dL_law_356 : decode cL_law 356 = .ok (.invokevirtual 46, 3) := by decide +kernel
theorem dL_law_359 : decode cL_law 359 = .ok (.aload_n 2, 1) := by decide +kernel
theorem dL_law_360 : decode cL_law 360 = .ok (.aload_n 0, 1) := by decide +kernel
theorem dL_law_361 : decode cL_law 361 = .ok (.iload_n 3, 1) := by decide +kernel
theorem dL_law_362 : decode cL_law 362 = .ok (.iconst 1, 1) := by decide +kernel
theorem dL_law_363 : decode cL_law 363 = .ok (.iadd, 1) := by decide +kernel
theorem dL_law_364 : decode cL_law 364 = .ok (.iaload, 1) := by decide +kernel
theorem dL_law_365 : decode cL_law 365 = .ok (.aload_n 0, 1) := by decide +kernel
theorem dL_law_366 : decode cL_law 366 = .ok (.iload_n 3, 1) := by decide +kernel
theorem dL_law_367 : decode cL_law 367 = .ok (.iconst 2, 1) := by decide +kernel
theorem dL_law_368 : decode cL_law 368 = .ok (.iadd, 1) := by decide +kernel
theorem dL_law_369 : decode cL_law 369 = .ok (.iaload, 1) := by decide +kernel
theorem dL_law_370 : decode cL_law 370 = .ok (.invokevirtual 49, 3) := by decide +kernel
theorem dL_law_373 : decode cL_law 373 = .ok (.if_icmp .eq 485, 3) := by decide +kernel
theorem dL_law_376 : decode cL_law 376 = .ok (.iconst 0, 1) := by decide +kernel
theorem dL_law_377 : decode cL_law 377 = .ok (.ireturn, 1) := by decide +kernel
theorem dL_law_378 : decode cL_law 378 = .ok (.aload_n 1, 1) := by decide +kernel
theorem dL_law_379 : decode cL_law 379 = .ok (.aload_n 0, 1) := by decide +kernel
theorem dL_law_380 : decode cL_law 380 = .ok (.iload_n 3, 1) := by decide +kernel
theorem dL_law_381 : decode cL_law 381 = .ok (.iconst 1, 1) := by decide +kernel
theorem dL_law_382 : decode cL_law 382 = .ok (.iadd, 1) := by decide +kernel
theorem dL_law_383 : decode cL_law 383 = .ok (.iaload, 1) := by decide +kernel
theorem dL_law_384 : decode cL_law 384 = .ok (.aload_n 0, 1) := by decide +kernel
theorem dL_law_385 : decode cL_law 385 = .ok (.iload_n 3, 1) := by decide +kernel
theorem dL_law_386 : decode cL_law 386 = .ok (.iconst 2, 1) := by decide +kernel
theorem dL_law_387 : decode cL_law 387 = .ok (.iadd, 1) := by decide +kernel
theorem dL_law_388 : decode cL_law 388 = .ok (.iaload, 1) := by decide +kernel
theorem dL_law_389 : decode cL_law 389 = .ok (.invokevirtual 50, 3) := by decide +kernel
theorem dL_law_392 : decode cL_law 392 = .ok (.aload_n 2, 1) := by decide +kernel
theorem dL_law_393 : decode cL_law 393 = .ok (.aload_n 0, 1) := by decide +kernel
theorem dL_law_394 : decode cL_law 394 = .ok (.iload_n 3, 1) := by decide +kernel
theorem dL_law_395 : decode cL_law 395 = .ok (.iconst 1, 1) := by decide +kernel
theorem dL_law_396 : decode cL_law 396 = .ok (.iadd, 1) := by decide +kernel
theorem dL_law_397 : decode cL_law 397 = .ok (.iaload, 1) := by decide +kernel
theorem dL_law_398 : decode cL_law 398 = .ok (.aload_n 0, 1) := by decide +kernel
theorem dL_law_399 : decode cL_law 399 = .ok (.iload_n 3, 1) := by decide +kernel
theorem dL_law_400 : decode cL_law 400 = .ok (.iconst 2, 1) := by decide +kernel
theorem dL_law_401 : decode cL_law 401 = .ok (.iadd, 1) := by decide +kernel
theorem dL_law_402 : decode cL_law 402 = .ok (.iaload, 1) := by decide +kernel
theorem dL_law_403 : decode cL_law 403 = .ok (.invokevirtual 53, 3) := by decide +kernel
theorem dL_law_406 : decode cL_law 406 = .ok (.if_icmp .eq 452, 3) := by decide +kernel
theorem dL_law_409 : decode cL_law 409 = .ok (.iconst 0, 1) := by decide +kernel
theorem dL_law_410 : decode cL_law 410 = .ok (.ireturn, 1) := by decide +kernel
theorem dL_law_411 : decode cL_law 411 = .ok (.aload_n 1, 1) := by decide +kernel
theorem dL_law_412 : decode cL_law 412 = .ok (.aload_n 0, 1) := by decide +kernel
theorem dL_law_413 : decode cL_law 413 = .ok (.iload_n 3, 1) := by decide +kernel
theorem dL_law_414 : decode cL_law 414 = .ok (.iconst 1, 1) := by decide +kernel
theorem dL_law_415 : decode cL_law 415 = .ok (.iadd, 1) := by decide +kernel
theorem dL_law_416 : decode cL_law 416 = .ok (.iaload, 1) := by decide +kernel
theorem dL_law_417 : decode cL_law 417 = .ok (.aload_n 0, 1) := by decide +kernel
theorem dL_law_418 : decode cL_law 418 = .ok (.iload_n 3, 1) := by decide +kernel
theorem dL_law_419 : decode cL_law 419 = .ok (.iconst 2, 1) := by decide +kernel
theorem dL_law_420 : decode cL_law 420 = .ok (.iadd, 1) := by decide +kernel
theorem dL_law_421 : decode cL_law 421 = .ok (.iaload, 1) := by decide +kernel
theorem dL_law_422 : decode cL_law 422 = .ok (.invokevirtual 54, 3) := by decide +kernel
theorem dL_law_425 : decode cL_law 425 = .ok (.aload_n 2, 1) := by decide +kernel
theorem dL_law_426 : decode cL_law 426 = .ok (.aload_n 0, 1) := by decide +kernel
theorem dL_law_427 : decode cL_law 427 = .ok (.iload_n 3, 1) := by decide +kernel
theorem dL_law_428 : decode cL_law 428 = .ok (.iconst 1, 1) := by decide +kernel
theorem dL_law_429 : decode cL_law 429 = .ok (.iadd, 1) := by decide +kernel
theorem dL_law_430 : decode cL_law 430 = .ok (.iaload, 1) := by decide +kernel
theorem dL_law_431 : decode cL_law 431 = .ok (.aload_n 0, 1) := by decide +kernel
theorem dL_law_432 : decode cL_law 432 = .ok (.iload_n 3, 1) := by decide +kernel
theorem dL_law_433 : decode cL_law 433 = .ok (.iconst 2, 1) := by decide +kernel
theorem dL_law_434 : decode cL_law 434 = .ok (.iadd, 1) := by decide +kernel
theorem dL_law_435 : decode cL_law 435 = .ok (.iaload, 1) := by decide +kernel
theorem dL_law_436 : decode cL_law 436 = .ok (.invokevirtual 57, 3) := by decide +kernel
theorem dL_law_439 : decode cL_law 439 = .ok (.if_icmp .eq 419, 3) := by decide +kernel
theorem dL_law_442 : decode cL_law 442 = .ok (.iconst 0, 1) := by decide +kernel
theorem dL_law_443 : decode cL_law 443 = .ok (.ireturn, 1) := by decide +kernel
theorem dL_law_444 : decode cL_law 444 = .ok (.aload_n 1, 1) := by decide +kernel
theorem dL_law_445 : decode cL_law 445 = .ok (.aload_n 0, 1) := by decide +kernel
theorem dL_law_446 : decode cL_law 446 = .ok (.iload_n 3, 1) := by decide +kernel
theorem dL_law_447 : decode cL_law 447 = .ok (.iconst 1, 1) := by decide +kernel
theorem dL_law_448 : decode cL_law 448 = .ok (.iadd, 1) := by decide +kernel
theorem dL_law_449 : decode cL_law 449 = .ok (.iaload, 1) := by decide +kernel
theorem dL_law_450 : decode cL_law 450 = .ok (.aload_n 0, 1) := by decide +kernel
theorem dL_law_451 : decode cL_law 451 = .ok (.iload_n 3, 1) := by decide +kernel
theorem dL_law_452 : decode cL_law 452 = .ok (.iconst 2, 1) := by decide +kernel
theorem dL_law_453 : decode cL_law 453 = .ok (.iadd, 1) := by decide +kernel
theorem dL_law_454 : decode cL_law 454 = .ok (.iaload, 1) := by decide +kernel
theorem dL_law_455 : decode cL_law 455 = .ok (.invokevirtual 58, 3) := by decide +kernel
theorem dL_law_458 : decode cL_law 458 = .ok (.aload_n 2, 1) := by decide +kernel
theorem dL_law_459 : decode cL_law 459 = .ok (.aload_n 0, 1) := by decide +kernel
theorem dL_law_460 : decode cL_law 460 = .ok (.iload_n 3, 1) := by decide +kernel
theorem dL_law_461 : decode cL_law 461 = .ok (.iconst 1, 1) := by decide +kernel
theorem dL_law_462 : decode cL_law 462 = .ok (.iadd, 1) := by decide +kernel
theorem dL_law_463 : decode cL_law 463 = .ok (.iaload, 1) := by decide +kernel
theorem dL_law_464 : decode cL_law 464 = .ok (.aload_n 0, 1) := by decide +kernel
theorem dL_law_465 : decode cL_law 465 = .ok (.iload_n 3, 1) := by decide +kernel
theorem dL_law_466 : decode cL_law 466 = .ok (.iconst 2, 1) := by decide +kernel
theorem dL_law_467 : decode cL_law 467 = .ok (.iadd, 1) := by decide +kernel
theorem dL_law_468 : decode cL_law 468 = .ok (.iaload, 1) := by decide +kernel
theorem dL_law_469 : decode cL_law 469 = .ok (.invokevirtual 61, 3) := by decide +kernel
theorem dL_law_472 : decode cL_law 472 = .ok (.if_icmp .eq 386, 3) := by decide +kernel
theorem dL_law_475 : decode cL_law 475 = .ok (.iconst 0, 1) := by decide +kernel
theorem dL_law_476 : decode cL_law 476 = .ok (.ireturn, 1) := by decide +kernel
theorem dL_law_477 : decode cL_law 477 = .ok (.aload_n 1, 1) := by decide +kernel
theorem dL_law_478 : decode cL_law 478 = .ok (.aload_n 0, 1) := by decide +kernel
theorem dL_law_479 : decode cL_law 479 = .ok (.iload_n 3, 1) := by decide +kernel
theorem dL_law_480 : decode cL_law 480 = .ok (.iconst 1, 1) := by decide +kernel
theorem dL_law_481 : decode cL_law 481 = .ok (.iadd, 1) := by decide +kernel
theorem dL_law_482 : decode cL_law 482 = .ok (.iaload, 1) := by decide +kernel
theorem dL_law_483 : decode cL_law 483 = .ok (.aload_n 0, 1) := by decide +kernel
theorem dL_law_484 : decode cL_law 484 = .ok (.iload_n 3, 1) := by decide +kernel
theorem dL_law_485 : decode cL_law 485 = .ok (.iconst 2, 1) := by decide +kernel
theorem dL_law_486 : decode cL_law 486 = .ok (.iadd, 1) := by decide +kernel
theorem dL_law_487 : decode cL_law 487 = .ok (.iaload, 1) := by decide +kernel
theorem dL_law_488 : decode cL_law 488 = .ok (.aload_n 0, 1) := by decide +kernel
theorem dL_law_489 : decode cL_law 489 = .ok (.iload_n 3, 1) := by decide +kernel
theorem dL_law_490 : decode cL_law 490 = .ok (.iconst 3, 1) := by decide +kernel
theorem dL_law_491 : decode cL_law 491 = .ok (.iadd, 1) := by decide +kernel
theorem dL_law_492 : decode cL_law 492 = .ok (.iaload, 1) := by decide +kernel
theorem dL_law_493 : decode cL_law 493 = .ok (.invokevirtual 62, 3) := by decide +kernel
theorem dL_law_496 : decode cL_law 496 = .ok (.aload_n 2, 1) := by decide +kernel
theorem dL_law_497 : decode cL_law 497 = .ok (.aload_n 0, 1) := by decide +kernel
theorem dL_law_498 : decode cL_law 498 = .ok (.iload_n 3, 1) := by decide +kernel
theorem dL_law_499 : decode cL_law 499 = .ok (.iconst 1, 1) := by decide +kernel
theorem dL_law_500 : decode cL_law 500 = .ok (.iadd, 1) := by decide +kernel
theorem dL_law_501 : decode cL_law 501 = .ok (.iaload, 1) := by decide +kernel
theorem dL_law_502 : decode cL_law 502 = .ok (.aload_n 0, 1) := by decide +kernel
theorem dL_law_503 : decode cL_law 503 = .ok (.iload_n 3, 1) := by decide +kernel
theorem dL_law_504 : decode cL_law 504 = .ok (.iconst 2, 1) := by decide +kernel
theorem dL_law_505 : decode cL_law 505 = .ok (.iadd, 1) := by decide +kernel
theorem dL_law_506 : decode cL_law 506 = .ok (.iaload, 1) := by decide +kernel
theorem dL_law_507 : decode cL_law 507 = .ok (.aload_n 0, 1) := by decide +kernel
theorem dL_law_508 : decode cL_law 508 = .ok (.iload_n 3, 1) := by decide +kernel
theorem dL_law_509 : decode cL_law 509 = .ok (.iconst 3, 1) := by decide +kernel
theorem dL_law_510 : decode cL_law 510 = .ok (.iadd, 1) := by decide +kernel
theorem dL_law_511 : decode cL_law 511 = .ok (.iaload, 1) := by decide +kernel
theorem dL_law_512 : decode cL_law 512 = .ok (.invokevirtual 66, 3) := by decide +kernel
theorem dL_law_515 : decode cL_law 515 = .ok (.if_icmp .eq 343, 3) := by decide +kernel
theorem dL_law_518 : decode cL_law 518 = .ok (.iconst 0, 1) := by decide +kernel
theorem dL_law_519 : decode cL_law 519 = .ok (.ireturn, 1) := by decide +kernel
theorem dL_law_520 : decode cL_law 520 = .ok (.aload_n 1, 1) := by decide +kernel
theorem dL_law_521 : decode cL_law 521 = .ok (.aload_n 0, 1) := by decide +kernel
theorem dL_law_522 : decode cL_law 522 = .ok (.iload_n 3, 1) := by decide +kernel
theorem dL_law_523 : decode cL_law 523 = .ok (.iconst 1, 1) := by decide +kernel
theorem dL_law_524 : decode cL_law 524 = .ok (.iadd, 1) := by decide +kernel
theorem dL_law_525 : decode cL_law 525 = .ok (.iaload, 1) := by decide +kernel
theorem dL_law_526 : decode cL_law 526 = .ok (.aload_n 0, 1) := by decide +kernel
theorem dL_law_527 : decode cL_law 527 = .ok (.iload_n 3, 1) := by decide +kernel
theorem dL_law_528 : decode cL_law 528 = .ok (.iconst 2, 1) := by decide +kernel
theorem dL_law_529 : decode cL_law 529 = .ok (.iadd, 1) := by decide +kernel
theorem dL_law_530 : decode cL_law 530 = .ok (.iaload, 1) := by decide +kernel
theorem dL_law_531 : decode cL_law 531 = .ok (.aload_n 0, 1) := by decide +kernel
theorem dL_law_532 : decode cL_law 532 = .ok (.iload_n 3, 1) := by decide +kernel
theorem dL_law_533 : decode cL_law 533 = .ok (.iconst 3, 1) := by decide +kernel
theorem dL_law_534 : decode cL_law 534 = .ok (.iadd, 1) := by decide +kernel
theorem dL_law_535 : decode cL_law 535 = .ok (.iaload, 1) := by decide +kernel
theorem dL_law_536 : decode cL_law 536 = .ok (.invokevirtual 67, 3) := by decide +kernel
theorem dL_law_539 : decode cL_law 539 = .ok (.aload_n 2, 1) := by decide +kernel
theorem dL_law_540 : decode cL_law 540 = .ok (.aload_n 0, 1) := by decide +kernel
theorem dL_law_541 : decode cL_law 541 = .ok (.iload_n 3, 1) := by decide +kernel
theorem dL_law_542 : decode cL_law 542 = .ok (.iconst 1, 1) := by decide +kernel
theorem dL_law_543 : decode cL_law 543 = .ok (.iadd, 1) := by decide +kernel
theorem dL_law_544 : decode cL_law 544 = .ok (.iaload, 1) := by decide +kernel
theorem dL_law_545 : decode cL_law 545 = .ok (.aload_n 0, 1) := by decide +kernel
theorem dL_law_546 : decode cL_law 546 = .ok (.iload_n 3, 1) := by decide +kernel
theorem dL_law_547 : decode cL_law 547 = .ok (.iconst 2, 1) := by decide +kernel
theorem dL_law_548 : decode cL_law 548 = .ok (.iadd, 1) := by decide +kernel
theorem dL_law_549 : decode cL_law 549 = .ok (.iaload, 1) := by decide +kernel
theorem dL_law_550 : decode cL_law 550 = .ok (.aload_n 0, 1) := by decide +kernel
theorem dL_law_551 : decode cL_law 551 = .ok (.iload_n 3, 1) := by decide +kernel
theorem dL_law_552 : decode cL_law 552 = .ok (.iconst 3, 1) := by decide +kernel
theorem dL_law_553 : decode cL_law 553 = .ok (.iadd, 1) := by decide +kernel
theorem dL_law_554 : decode cL_law 554 = .ok (.iaload, 1) := by decide +kernel
theorem dL_law_555 : decode cL_law 555 = .ok (.invokevirtual 71, 3) := by decide +kernel
theorem dL_law_558 : decode cL_law 558 = .ok (.lcmp, 1) := by decide +kernel
theorem dL_law_559 : decode cL_law 559 = .ok (.ifCond .eq 299, 3) := by decide +kernel
theorem dL_law_562 : decode cL_law 562 = .ok (.iconst 0, 1) := by decide +kernel
theorem dL_law_563 : decode cL_law 563 = .ok (.ireturn, 1) := by decide +kernel
theorem dL_law_564 : decode cL_law 564 = .ok (.aload_n 1, 1) := by decide +kernel
theorem dL_law_565 : decode cL_law 565 = .ok (.aload_n 0, 1) := by decide +kernel
theorem dL_law_566 : decode cL_law 566 = .ok (.iload_n 3, 1) := by decide +kernel
theorem dL_law_567 : decode cL_law 567 = .ok (.iconst 1, 1) := by decide +kernel
theorem dL_law_568 : decode cL_law 568 = .ok (.iadd, 1) := by decide +kernel
theorem dL_law_569 : decode cL_law 569 = .ok (.iaload, 1) := by decide +kernel
theorem dL_law_570 : decode cL_law 570 = .ok (.aload_n 0, 1) := by decide +kernel
theorem dL_law_571 : decode cL_law 571 = .ok (.iload_n 3, 1) := by decide +kernel
theorem dL_law_572 : decode cL_law 572 = .ok (.iconst 2, 1) := by decide +kernel
theorem dL_law_573 : decode cL_law 573 = .ok (.iadd, 1) := by decide +kernel
theorem dL_law_574 : decode cL_law 574 = .ok (.iaload, 1) := by decide +kernel
theorem dL_law_575 : decode cL_law 575 = .ok (.invokevirtual 72, 3) := by decide +kernel
theorem dL_law_578 : decode cL_law 578 = .ok (.aload_n 2, 1) := by decide +kernel
theorem dL_law_579 : decode cL_law 579 = .ok (.aload_n 0, 1) := by decide +kernel
theorem dL_law_580 : decode cL_law 580 = .ok (.iload_n 3, 1) := by decide +kernel
theorem dL_law_581 : decode cL_law 581 = .ok (.iconst 1, 1) := by decide +kernel
theorem dL_law_582 : decode cL_law 582 = .ok (.iadd, 1) := by decide +kernel
theorem dL_law_583 : decode cL_law 583 = .ok (.iaload, 1) := by decide +kernel
theorem dL_law_584 : decode cL_law 584 = .ok (.aload_n 0, 1) := by decide +kernel
theorem dL_law_585 : decode cL_law 585 = .ok (.iload_n 3, 1) := by decide +kernel
theorem dL_law_586 : decode cL_law 586 = .ok (.iconst 2, 1) := by decide +kernel
theorem dL_law_587 : decode cL_law 587 = .ok (.iadd, 1) := by decide +kernel
theorem dL_law_588 : decode cL_law 588 = .ok (.iaload, 1) := by decide +kernel
theorem dL_law_589 : decode cL_law 589 = .ok (.invokevirtual 76, 3) := by decide +kernel
theorem dL_law_592 : decode cL_law 592 = .ok (.lcmp, 1) := by decide +kernel
theorem dL_law_593 : decode cL_law 593 = .ok (.ifCond .eq 265, 3) := by decide +kernel
theorem dL_law_596 : decode cL_law 596 = .ok (.iconst 0, 1) := by decide +kernel
theorem dL_law_597 : decode cL_law 597 = .ok (.ireturn, 1) := by decide +kernel
theorem dL_law_598 : decode cL_law 598 = .ok (.aload_n 1, 1) := by decide +kernel
theorem dL_law_599 : decode cL_law 599 = .ok (.aload_n 0, 1) := by decide +kernel
theorem dL_law_600 : decode cL_law 600 = .ok (.iload_n 3, 1) := by decide +kernel
theorem dL_law_601 : decode cL_law 601 = .ok (.iconst 1, 1) := by decide +kernel
theorem dL_law_602 : decode cL_law 602 = .ok (.iadd, 1) := by decide +kernel
theorem dL_law_603 : decode cL_law 603 = .ok (.iaload, 1) := by decide +kernel
theorem dL_law_604 : decode cL_law 604 = .ok (.aload_n 0, 1) := by decide +kernel
theorem dL_law_605 : decode cL_law 605 = .ok (.iload_n 3, 1) := by decide +kernel
theorem dL_law_606 : decode cL_law 606 = .ok (.iconst 2, 1) := by decide +kernel
theorem dL_law_607 : decode cL_law 607 = .ok (.iadd, 1) := by decide +kernel
theorem dL_law_608 : decode cL_law 608 = .ok (.iaload, 1) := by decide +kernel
theorem dL_law_609 : decode cL_law 609 = .ok (.aload_n 0, 1) := by decide +kernel
theorem dL_law_610 : decode cL_law 610 = .ok (.iload_n 3, 1) := by decide +kernel
theorem dL_law_611 : decode cL_law 611 = .ok (.iconst 3, 1) := by decide +kernel
theorem dL_law_612 : decode cL_law 612 = .ok (.iadd, 1) := by decide +kernel
theorem dL_law_613 : decode cL_law 613 = .ok (.iaload, 1) := by decide +kernel
theorem dL_law_614 : decode cL_law 614 = .ok (.aload_n 0, 1) := by decide +kernel
theorem dL_law_615 : decode cL_law 615 = .ok (.iload_n 3, 1) := by decide +kernel
theorem dL_law_616 : decode cL_law 616 = .ok (.iconst 4, 1) := by decide +kernel
theorem dL_law_617 : decode cL_law 617 = .ok (.iadd, 1) := by decide +kernel
theorem dL_law_618 : decode cL_law 618 = .ok (.iaload, 1) := by decide +kernel
theorem dL_law_619 : decode cL_law 619 = .ok (.invokevirtual 77, 3) := by decide +kernel
theorem dL_law_622 : decode cL_law 622 = .ok (.aload_n 2, 1) := by decide +kernel
theorem dL_law_623 : decode cL_law 623 = .ok (.aload_n 0, 1) := by decide +kernel
theorem dL_law_624 : decode cL_law 624 = .ok (.iload_n 3, 1) := by decide +kernel
theorem dL_law_625 : decode cL_law 625 = .ok (.iconst 1, 1) := by decide +kernel
theorem dL_law_626 : decode cL_law 626 = .ok (.iadd, 1) := by decide +kernel
theorem dL_law_627 : decode cL_law 627 = .ok (.iaload, 1) := by decide +kernel
theorem dL_law_628 : decode cL_law 628 = .ok (.aload_n 0, 1) := by decide +kernel
theorem dL_law_629 : decode cL_law 629 = .ok (.iload_n 3, 1) := by decide +kernel
theorem dL_law_630 : decode cL_law 630 = .ok (.iconst 2, 1) := by decide +kernel
theorem dL_law_631 : decode cL_law 631 = .ok (.iadd, 1) := by decide +kernel
theorem dL_law_632 : decode cL_law 632 = .ok (.iaload, 1) := by decide +kernel
theorem dL_law_633 : decode cL_law 633 = .ok (.aload_n 0, 1) := by decide +kernel
theorem dL_law_634 : decode cL_law 634 = .ok (.iload_n 3, 1) := by decide +kernel
theorem dL_law_635 : decode cL_law 635 = .ok (.iconst 3, 1) := by decide +kernel
theorem dL_law_636 : decode cL_law 636 = .ok (.iadd, 1) := by decide +kernel
theorem dL_law_637 : decode cL_law 637 = .ok (.iaload, 1) := by decide +kernel
theorem dL_law_638 : decode cL_law 638 = .ok (.aload_n 0, 1) := by decide +kernel
theorem dL_law_639 : decode cL_law 639 = .ok (.iload_n 3, 1) := by decide +kernel
theorem dL_law_640 : decode cL_law 640 = .ok (.iconst 4, 1) := by decide +kernel
theorem dL_law_641 : decode cL_law 641 = .ok (.iadd, 1) := by decide +kernel
theorem dL_law_642 : decode cL_law 642 = .ok (.iaload, 1) := by decide +kernel
theorem dL_law_643 : decode cL_law 643 = .ok (.invokevirtual 81, 3) := by decide +kernel
theorem dL_law_646 : decode cL_law 646 = .ok (.if_icmp .eq 212, 3) := by decide +kernel
theorem dL_law_649 : decode cL_law 649 = .ok (.iconst 0, 1) := by decide +kernel
theorem dL_law_650 : decode cL_law 650 = .ok (.ireturn, 1) := by decide +kernel
theorem dL_law_651 : decode cL_law 651 = .ok (.aload_n 1, 1) := by decide +kernel
theorem dL_law_652 : decode cL_law 652 = .ok (.aload_n 0, 1) := by decide +kernel
theorem dL_law_653 : decode cL_law 653 = .ok (.iload_n 3, 1) := by decide +kernel
theorem dL_law_654 : decode cL_law 654 = .ok (.iconst 1, 1) := by decide +kernel
theorem dL_law_655 : decode cL_law 655 = .ok (.iadd, 1) := by decide +kernel
theorem dL_law_656 : decode cL_law 656 = .ok (.iaload, 1) := by decide +kernel
theorem dL_law_657 : decode cL_law 657 = .ok (.aload_n 0, 1) := by decide +kernel
theorem dL_law_658 : decode cL_law 658 = .ok (.iload_n 3, 1) := by decide +kernel
theorem dL_law_659 : decode cL_law 659 = .ok (.iconst 2, 1) := by decide +kernel
theorem dL_law_660 : decode cL_law 660 = .ok (.iadd, 1) := by decide +kernel
theorem dL_law_661 : decode cL_law 661 = .ok (.iaload, 1) := by decide +kernel
theorem dL_law_662 : decode cL_law 662 = .ok (.invokevirtual 82, 3) := by decide +kernel
theorem dL_law_665 : decode cL_law 665 = .ok (.aload_n 2, 1) := by decide +kernel
theorem dL_law_666 : decode cL_law 666 = .ok (.aload_n 0, 1) := by decide +kernel
theorem dL_law_667 : decode cL_law 667 = .ok (.iload_n 3, 1) := by decide +kernel
theorem dL_law_668 : decode cL_law 668 = .ok (.iconst 1, 1) := by decide +kernel
theorem dL_law_669 : decode cL_law 669 = .ok (.iadd, 1) := by decide +kernel
theorem dL_law_670 : decode cL_law 670 = .ok (.iaload, 1) := by decide +kernel
theorem dL_law_671 : decode cL_law 671 = .ok (.aload_n 0, 1) := by decide +kernel
theorem dL_law_672 : decode cL_law 672 = .ok (.iload_n 3, 1) := by decide +kernel
theorem dL_law_673 : decode cL_law 673 = .ok (.iconst 2, 1) := by decide +kernel
theorem dL_law_674 : decode cL_law 674 = .ok (.iadd, 1) := by decide +kernel
theorem dL_law_675 : decode cL_law 675 = .ok (.iaload, 1) := by decide +kernel
theorem dL_law_676 : decode cL_law 676 = .ok (.invokevirtual 85, 3) := by decide +kernel
theorem dL_law_679 : decode cL_law 679 = .ok (.if_icmp .eq 179, 3) := by decide +kernel
theorem dL_law_682 : decode cL_law 682 = .ok (.iconst 0, 1) := by decide +kernel
theorem dL_law_683 : decode cL_law 683 = .ok (.ireturn, 1) := by decide +kernel
theorem dL_law_684 : decode cL_law 684 = .ok (.aload_n 1, 1) := by decide +kernel
theorem dL_law_685 : decode cL_law 685 = .ok (.invokevirtual 86, 3) := by decide +kernel
theorem dL_law_688 : decode cL_law 688 = .ok (.aload_n 2, 1) := by decide +kernel
theorem dL_law_689 : decode cL_law 689 = .ok (.invokevirtual 89, 3) := by decide +kernel
theorem dL_law_692 : decode cL_law 692 = .ok (.if_icmp .eq 166, 3) := by decide +kernel
theorem dL_law_695 : decode cL_law 695 = .ok (.iconst 0, 1) := by decide +kernel
theorem dL_law_696 : decode cL_law 696 = .ok (.ireturn, 1) := by decide +kernel
theorem dL_law_697 : decode cL_law 697 = .ok (.aload_n 1, 1) := by decide +kernel
theorem dL_law_698 : decode cL_law 698 = .ok (.aload_n 0, 1) := by decide +kernel
theorem dL_law_699 : decode cL_law 699 = .ok (.iload_n 3, 1) := by decide +kernel
theorem dL_law_700 : decode cL_law 700 = .ok (.iconst 1, 1) := by decide +kernel
theorem dL_law_701 : decode cL_law 701 = .ok (.iadd, 1) := by decide +kernel
theorem dL_law_702 : decode cL_law 702 = .ok (.iaload, 1) := by decide +kernel
theorem dL_law_703 : decode cL_law 703 = .ok (.aload_n 0, 1) := by decide +kernel
theorem dL_law_704 : decode cL_law 704 = .ok (.iload_n 3, 1) := by decide +kernel
theorem dL_law_705 : decode cL_law 705 = .ok (.iconst 2, 1) := by decide +kernel
theorem dL_law_706 : decode cL_law 706 = .ok (.iadd, 1) := by decide +kernel
theorem dL_law_707 : decode cL_law 707 = .ok (.iaload, 1) := by decide +kernel
theorem dL_law_708 : decode cL_law 708 = .ok (.aload_n 0, 1) := by decide +kernel
theorem dL_law_709 : decode cL_law 709 = .ok (.iload_n 3, 1) := by decide +kernel
theorem dL_law_710 : decode cL_law 710 = .ok (.iconst 3, 1) := by decide +kernel
theorem dL_law_711 : decode cL_law 711 = .ok (.iadd, 1) := by decide +kernel
theorem dL_law_712 : decode cL_law 712 = .ok (.iaload, 1) := by decide +kernel
theorem dL_law_713 : decode cL_law 713 = .ok (.invokevirtual 90, 3) := by decide +kernel
theorem dL_law_716 : decode cL_law 716 = .ok (.aload_n 2, 1) := by decide +kernel
theorem dL_law_717 : decode cL_law 717 = .ok (.aload_n 0, 1) := by decide +kernel
theorem dL_law_718 : decode cL_law 718 = .ok (.iload_n 3, 1) := by decide +kernel
theorem dL_law_719 : decode cL_law 719 = .ok (.iconst 1, 1) := by decide +kernel
theorem dL_law_720 : decode cL_law 720 = .ok (.iadd, 1) := by decide +kernel
theorem dL_law_721 : decode cL_law 721 = .ok (.iaload, 1) := by decide +kernel
theorem dL_law_722 : decode cL_law 722 = .ok (.aload_n 0, 1) := by decide +kernel
theorem dL_law_723 : decode cL_law 723 = .ok (.iload_n 3, 1) := by decide +kernel
theorem dL_law_724 : decode cL_law 724 = .ok (.iconst 2, 1) := by decide +kernel
theorem dL_law_725 : decode cL_law 725 = .ok (.iadd, 1) := by decide +kernel
theorem dL_law_726 : decode cL_law 726 = .ok (.iaload, 1) := by decide +kernel
theorem dL_law_727 : decode cL_law 727 = .ok (.aload_n 0, 1) := by decide +kernel
theorem dL_law_728 : decode cL_law 728 = .ok (.iload_n 3, 1) := by decide +kernel
theorem dL_law_729 : decode cL_law 729 = .ok (.iconst 3, 1) := by decide +kernel
theorem dL_law_730 : decode cL_law 730 = .ok (.iadd, 1) := by decide +kernel
theorem dL_law_731 : decode cL_law 731 = .ok (.iaload, 1) := by decide +kernel
theorem dL_law_732 : decode cL_law 732 = .ok (.invokevirtual 93, 3) := by decide +kernel
theorem dL_law_735 : decode cL_law 735 = .ok (.if_icmp .eq 123, 3) := by decide +kernel
theorem dL_law_738 : decode cL_law 738 = .ok (.iconst 0, 1) := by decide +kernel
theorem dL_law_739 : decode cL_law 739 = .ok (.ireturn, 1) := by decide +kernel
theorem dL_law_740 : decode cL_law 740 = .ok (.aload_n 1, 1) := by decide +kernel
theorem dL_law_741 : decode cL_law 741 = .ok (.invokevirtual 94, 3) := by decide +kernel
theorem dL_law_744 : decode cL_law 744 = .ok (.aload_n 2, 1) := by decide +kernel
theorem dL_law_745 : decode cL_law 745 = .ok (.invokevirtual 97, 3) := by decide +kernel
theorem dL_law_748 : decode cL_law 748 = .ok (.if_icmp .eq 110, 3) := by decide +kernel
theorem dL_law_751 : decode cL_law 751 = .ok (.iconst 0, 1) := by decide +kernel
theorem dL_law_752 : decode cL_law 752 = .ok (.ireturn, 1) := by decide +kernel
theorem dL_law_753 : decode cL_law 753 = .ok (.aload_n 1, 1) := by decide +kernel
theorem dL_law_754 : decode cL_law 754 = .ok (.aload_n 0, 1) := by decide +kernel
theorem dL_law_755 : decode cL_law 755 = .ok (.iload_n 3, 1) := by decide +kernel
theorem dL_law_756 : decode cL_law 756 = .ok (.iconst 1, 1) := by decide +kernel
theorem dL_law_757 : decode cL_law 757 = .ok (.iadd, 1) := by decide +kernel
theorem dL_law_758 : decode cL_law 758 = .ok (.iaload, 1) := by decide +kernel
theorem dL_law_759 : decode cL_law 759 = .ok (.invokevirtual 98, 3) := by decide +kernel
theorem dL_law_762 : decode cL_law 762 = .ok (.aload_n 2, 1) := by decide +kernel
theorem dL_law_763 : decode cL_law 763 = .ok (.aload_n 0, 1) := by decide +kernel
theorem dL_law_764 : decode cL_law 764 = .ok (.iload_n 3, 1) := by decide +kernel
theorem dL_law_765 : decode cL_law 765 = .ok (.iconst 1, 1) := by decide +kernel
theorem dL_law_766 : decode cL_law 766 = .ok (.iadd, 1) := by decide +kernel
theorem dL_law_767 : decode cL_law 767 = .ok (.iaload, 1) := by decide +kernel
theorem dL_law_768 : decode cL_law 768 = .ok (.invokevirtual 102, 3) := by decide +kernel
theorem dL_law_771 : decode cL_law 771 = .ok (.if_icmp .eq 87, 3) := by decide +kernel
theorem dL_law_774 : decode cL_law 774 = .ok (.iconst 0, 1) := by decide +kernel
theorem dL_law_775 : decode cL_law 775 = .ok (.ireturn, 1) := by decide +kernel
theorem dL_law_776 : decode cL_law 776 = .ok (.aload_n 1, 1) := by decide +kernel
theorem dL_law_777 : decode cL_law 777 = .ok (.aload_n 0, 1) := by decide +kernel
theorem dL_law_778 : decode cL_law 778 = .ok (.iload_n 3, 1) := by decide +kernel
theorem dL_law_779 : decode cL_law 779 = .ok (.iconst 1, 1) := by decide +kernel
theorem dL_law_780 : decode cL_law 780 = .ok (.iadd, 1) := by decide +kernel
theorem dL_law_781 : decode cL_law 781 = .ok (.iaload, 1) := by decide +kernel
theorem dL_law_782 : decode cL_law 782 = .ok (.aload_n 0, 1) := by decide +kernel
theorem dL_law_783 : decode cL_law 783 = .ok (.iload_n 3, 1) := by decide +kernel
theorem dL_law_784 : decode cL_law 784 = .ok (.iconst 2, 1) := by decide +kernel
theorem dL_law_785 : decode cL_law 785 = .ok (.iadd, 1) := by decide +kernel
theorem dL_law_786 : decode cL_law 786 = .ok (.iaload, 1) := by decide +kernel
theorem dL_law_787 : decode cL_law 787 = .ok (.invokevirtual 103, 3) := by decide +kernel
theorem dL_law_790 : decode cL_law 790 = .ok (.aload_n 2, 1) := by decide +kernel
theorem dL_law_791 : decode cL_law 791 = .ok (.aload_n 0, 1) := by decide +kernel
theorem dL_law_792 : decode cL_law 792 = .ok (.iload_n 3, 1) := by decide +kernel
theorem dL_law_793 : decode cL_law 793 = .ok (.iconst 1, 1) := by decide +kernel
theorem dL_law_794 : decode cL_law 794 = .ok (.iadd, 1) := by decide +kernel
theorem dL_law_795 : decode cL_law 795 = .ok (.iaload, 1) := by decide +kernel
theorem dL_law_796 : decode cL_law 796 = .ok (.aload_n 0, 1) := by decide +kernel
theorem dL_law_797 : decode cL_law 797 = .ok (.iload_n 3, 1) := by decide +kernel
theorem dL_law_798 : decode cL_law 798 = .ok (.iconst 2, 1) := by decide +kernel
theorem dL_law_799 : decode cL_law 799 = .ok (.iadd, 1) := by decide +kernel
theorem dL_law_800 : decode cL_law 800 = .ok (.iaload, 1) := by decide +kernel
theorem dL_law_801 : decode cL_law 801 = .ok (.invokevirtual 106, 3) := by decide +kernel
theorem dL_law_804 : decode cL_law 804 = .ok (.if_icmp .eq 54, 3) := by decide +kernel
theorem dL_law_807 : decode cL_law 807 = .ok (.iconst 0, 1) := by decide +kernel
theorem dL_law_808 : decode cL_law 808 = .ok (.ireturn, 1) := by decide +kernel
theorem dL_law_809 : decode cL_law 809 = .ok (.aload_n 1, 1) := by decide +kernel
theorem dL_law_810 : decode cL_law 810 = .ok (.invokevirtual 107, 3) := by decide +kernel
theorem dL_law_813 : decode cL_law 813 = .ok (.aload_n 2, 1) := by decide +kernel
theorem dL_law_814 : decode cL_law 814 = .ok (.invokevirtual 110, 3) := by decide +kernel
theorem dL_law_817 : decode cL_law 817 = .ok (.if_icmp .eq 41, 3) := by decide +kernel
theorem dL_law_820 : decode cL_law 820 = .ok (.iconst 0, 1) := by decide +kernel
theorem dL_law_821 : decode cL_law 821 = .ok (.ireturn, 1) := by decide +kernel
theorem dL_law_822 : decode cL_law 822 = .ok (.aload_n 1, 1) := by decide +kernel
theorem dL_law_823 : decode cL_law 823 = .ok (.invokevirtual 111, 3) := by decide +kernel
theorem dL_law_826 : decode cL_law 826 = .ok (.aload_n 2, 1) := by decide +kernel
theorem dL_law_827 : decode cL_law 827 = .ok (.invokevirtual 114, 3) := by decide +kernel
theorem dL_law_830 : decode cL_law 830 = .ok (.if_icmp .eq 28, 3) := by decide +kernel
theorem dL_law_833 : decode cL_law 833 = .ok (.iconst 0, 1) := by decide +kernel
theorem dL_law_834 : decode cL_law 834 = .ok (.ireturn, 1) := by decide +kernel
theorem dL_law_835 : decode cL_law 835 = .ok (.aload_n 1, 1) := by decide +kernel
theorem dL_law_836 : decode cL_law 836 = .ok (.aload_n 0, 1) := by decide +kernel
theorem dL_law_837 : decode cL_law 837 = .ok (.iload_n 3, 1) := by decide +kernel
theorem dL_law_838 : decode cL_law 838 = .ok (.iconst 1, 1) := by decide +kernel
theorem dL_law_839 : decode cL_law 839 = .ok (.iadd, 1) := by decide +kernel
theorem dL_law_840 : decode cL_law 840 = .ok (.iaload, 1) := by decide +kernel
theorem dL_law_841 : decode cL_law 841 = .ok (.invokevirtual 115, 3) := by decide +kernel
theorem dL_law_844 : decode cL_law 844 = .ok (.aload_n 2, 1) := by decide +kernel
theorem dL_law_845 : decode cL_law 845 = .ok (.aload_n 0, 1) := by decide +kernel
theorem dL_law_846 : decode cL_law 846 = .ok (.iload_n 3, 1) := by decide +kernel
theorem dL_law_847 : decode cL_law 847 = .ok (.iconst 1, 1) := by decide +kernel
theorem dL_law_848 : decode cL_law 848 = .ok (.iadd, 1) := by decide +kernel
theorem dL_law_849 : decode cL_law 849 = .ok (.iaload, 1) := by decide +kernel
theorem dL_law_850 : decode cL_law 850 = .ok (.invokevirtual 118, 3) := by decide +kernel
theorem dL_law_853 : decode cL_law 853 = .ok (.if_icmp .eq 5, 3) := by decide +kernel
theorem dL_law_856 : decode cL_law 856 = .ok (.iconst 0, 1) := by decide +kernel
theorem dL_law_857 : decode cL_law 857 = .ok (.ireturn, 1) := by decide +kernel
theorem dL_law_858 : decode cL_law 858 = .ok (.iinc 3 5, 3) := by decide +kernel
theorem dL_law_861 : decode cL_law 861 = .ok (.goto (-843), 3) := by decide +kernel
theorem dL_law_864 : decode cL_law 864 = .ok (.iconst 1, 1) := by decide +kernel
theorem dL_law_865 : decode cL_law 865 = .ok (.ireturn, 1) := by decide +kernel
