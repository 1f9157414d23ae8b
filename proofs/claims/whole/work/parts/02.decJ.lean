theorem dX0_init_0 : decode cX0_init 0 = .ok (.aload_n 0, 1) := by decide +kernel
theorem dX0_init_1 : decode cX0_init 1 = .ok (.invokespecial 3, 3) := by decide +kernel
theorem dX0_init_4 : decode cX0_init 4 = .ok (.aload_n 0, 1) := by decide +kernel
theorem dX0_init_5 : decode cX0_init 5 = .ok (.new 9, 3) := by decide +kernel
theorem dX0_init_8 : decode cX0_init 8 = .ok (.dup, 1) := by decide +kernel
theorem dX0_init_9 : decode cX0_init 9 = .ok (.sipush 233, 3) := by decide +kernel
theorem dX0_init_12 : decode cX0_init 12 = .ok (.invokespecial 13, 3) := by decide +kernel
theorem dX0_init_15 : decode cX0_init 15 = .ok (.putfield 16, 3) := by decide +kernel
theorem dX0_init_18 : decode cX0_init 18 = .ok (.aload_n 0, 1) := by decide +kernel
theorem dX0_init_19 : decode cX0_init 19 = .ok (.sipush 233, 3) := by decide +kernel
theorem dX0_init_22 : decode cX0_init 22 = .ok (.newarray .int, 2) := by decide +kernel
theorem dX0_init_24 : decode cX0_init 24 = .ok (.putfield 20, 3) := by decide +kernel
theorem dX0_init_27 : decode cX0_init 27 = .ok (.aload_n 0, 1) := by decide +kernel
theorem dX0_init_28 : decode cX0_init 28 = .ok (.iconst 0, 1) := by decide +kernel
theorem dX0_init_29 : decode cX0_init 29 = .ok (.putfield 24, 3) := by decide +kernel
theorem dX0_init_32 : decode cX0_init 32 = .ok (.aload_n 0, 1) := by decide +kernel
theorem dX0_init_33 : decode cX0_init 33 = .ok (.iconst 0, 1) := by decide +kernel
theorem dX0_init_34 : decode cX0_init 34 = .ok (.putfield 28, 3) := by decide +kernel
theorem dX0_init_37 : decode cX0_init 37 = .ok (.aload_n 0, 1) := by decide +kernel
theorem dX0_init_38 : decode cX0_init 38 = .ok (.iconst 0, 1) := by decide +kernel
theorem dX0_init_39 : decode cX0_init 39 = .ok (.putfield 31, 3) := by decide +kernel
theorem dX0_init_42 : decode cX0_init 42 = .ok (.return_, 1) := by decide +kernel
theorem dX0_prepare_0 : decode cX0_prepare 0 = .ok (.aload_n 0, 1) := by decide +kernel
theorem dX0_prepare_1 : decode cX0_prepare 1 = .ok (.getfield 28, 3) := by decide +kernel
theorem dX0_prepare_4 : decode cX0_prepare 4 = .ok (.iload_n 1, 1) := by decide +kernel
theorem dX0_prepare_5 : decode cX0_prepare 5 = .ok (.if_icmp .ne 12, 3) := by decide +kernel
theorem dX0_prepare_8 : decode cX0_prepare 8 = .ok (.aload_n 0, 1) := by decide +kernel
theorem dX0_prepare_9 : decode cX0_prepare 9 = .ok (.getfield 31, 3) := by decide +kernel
theorem dX0_prepare_12 : decode cX0_prepare 12 = .ok (.iload_n 2, 1) := by decide +kernel
theorem dX0_prepare_13 : decode cX0_prepare 13 = .ok (.if_icmp .ne 4, 3) := by decide +kernel
theorem dX0_prepare_16 : decode cX0_prepare 16 = .ok (.return_, 1) := by decide +kernel
theorem dX0_prepare_17 : decode cX0_prepare 17 = .ok (.aload_n 0, 1) := by decide +kernel
theorem dX0_prepare_18 : decode cX0_prepare 18 = .ok (.iload_n 1, 1) := by decide +kernel
theorem dX0_prepare_19 : decode cX0_prepare 19 = .ok (.putfield 28, 3) := by decide +kernel
theorem dX0_prepare_22 : decode cX0_prepare 22 = .ok (.aload_n 0, 1) := by decide +kernel
theorem dX0_prepare_23 : decode cX0_prepare 23 = .ok (.iload_n 2, 1) := by decide +kernel
theorem dX0_prepare_24 : decode cX0_prepare 24 = .ok (.putfield 31, 3) := by decide +kernel
theorem dX0_prepare_27 : decode cX0_prepare 27 = .ok (.iconst 0, 1) := by decide +kernel
theorem dX0_prepare_28 : decode cX0_prepare 28 = .ok (.istore_n 3, 1) := by decide +kernel
theorem dX0_prepare_29 : decode cX0_prepare 29 = .ok (.iload_n 3, 1) := by decide +kernel
theorem dX0_prepare_30 : decode cX0_prepare 30 = .ok (.aload_n 0, 1) := by decide +kernel
theorem dX0_prepare_31 : decode cX0_prepare 31 = .ok (.getfield 16, 3) := by decide +kernel
theorem dX0_prepare_34 : decode cX0_prepare 34 = .ok (.getfield 34, 3) := by decide +kernel
theorem dX0_prepare_37 : decode cX0_prepare 37 = .ok (.if_icmp .ge 26, 3) := by decide +kernel
theorem dX0_prepare_40 : decode cX0_prepare 40 = .ok (.aload_n 0, 1) := by decide +kernel
theorem dX0_prepare_41 : decode cX0_prepare 41 = .ok (.getfield 16, 3) := by decide +kernel
theorem dX0_prepare_44 : decode cX0_prepare 44 = .ok (.getfield 37, 3) := by decide +kernel
theorem dX0_prepare_47 : decode cX0_prepare 47 = .ok (.iload_n 3, 1) := by decide +kernel
theorem dX0_prepare_48 : decode cX0_prepare 48 = .ok (.aload_n 0, 1) := by decide +kernel
theorem dX0_prepare_49 : decode cX0_prepare 49 = .ok (.iload_n 3, 1) := by decide +kernel
theorem dX0_prepare_50 : decode cX0_prepare 50 = .ok (.bipush 116, 2) := by decide +kernel
theorem dX0_prepare_52 : decode cX0_prepare 52 = .ok (.isub, 1) := by decide +kernel
theorem dX0_prepare_53 : decode cX0_prepare 53 = .ok (.invokevirtual 40, 3) := by decide +kernel
theorem dX0_prepare_56 : decode cX0_prepare 56 = .ok (.iastore, 1) := by decide +kernel
theorem dX0_prepare_57 : decode cX0_prepare 57 = .ok (.iinc 3 1, 3) := by decide +kernel
theorem dX0_prepare_60 : decode cX0_prepare 60 = .ok (.goto (-31), 3) := by decide +kernel
theorem dX0_prepare_63 : decode cX0_prepare 63 = .ok (.aload_n 0, 1) := by decide +kernel
theorem dX0_prepare_64 : decode cX0_prepare 64 = .ok (.getfield 16, 3) := by decide +kernel
theorem dX0_prepare_67 : decode cX0_prepare 67 = .ok (.invokevirtual 44, 3) := by decide +kernel
theorem dX0_prepare_70 : decode cX0_prepare 70 = .ok (.aload_n 0, 1) := by decide +kernel
theorem dX0_prepare_71 : decode cX0_prepare 71 = .ok (.iconst 0, 1) := by decide +kernel
theorem dX0_prepare_72 : decode cX0_prepare 72 = .ok (.putfield 24, 3) := by decide +kernel
theorem dX0_prepare_75 : decode cX0_prepare 75 = .ok (.iconst 0, 1) := by decide +kernel
theorem dX0_prepare_76 : decode cX0_prepare 76 = .ok (.istore_n 3, 1) := by decide +kernel
theorem dX0_prepare_77 : decode cX0_prepare 77 = .ok (.iload_n 3, 1) := by decide +kernel
theorem dX0_prepare_78 : decode cX0_prepare 78 = .ok (.aload_n 0, 1) := by decide +kernel
theorem dX0_prepare_79 : decode cX0_prepare 79 = .ok (.getfield 16, 3) := by decide +kernel
theorem dX0_prepare_82 : decode cX0_prepare 82 = .ok (.getfield 34, 3) := by decide +kernel
theorem dX0_prepare_85 : decode cX0_prepare 85 = .ok (.if_icmp .ge 53, 3) := by decide +kernel
theorem dX0_prepare_88 : decode cX0_prepare 88 = .ok (.aload_n 0, 1) := by decide +kernel
theorem dX0_prepare_89 : decode cX0_prepare 89 = .ok (.getfield 24, 3) := by decide +kernel
theorem dX0_prepare_92 : decode cX0_prepare 92 = .ok (.aload_n 0, 1) := by decide +kernel
theorem dX0_prepare_93 : decode cX0_prepare 93 = .ok (.getfield 20, 3) := by decide +kernel
theorem dX0_prepare_96 : decode cX0_prepare 96 = .ok (.arraylength, 1) := by decide +kernel
theorem dX0_prepare_97 : decode cX0_prepare 97 = .ok (.if_icmp .ge 41, 3) := by decide +kernel
theorem dX0_prepare_100 : decode cX0_prepare 100 = .ok (.aload_n 0, 1) := by decide +kernel
theorem dX0_prepare_101 : decode cX0_prepare 101 = .ok (.getfield 16, 3) := by decide +kernel
theorem dX0_prepare_104 : decode cX0_prepare 104 = .ok (.getfield 47, 3) := by decide +kernel
theorem dX0_prepare_107 : decode cX0_prepare 107 = .ok (.iload_n 3, 1) := by decide +kernel
theorem dX0_prepare_108 : decode cX0_prepare 108 = .ok (.iaload, 1) := by decide +kernel
theorem dX0_prepare_109 : decode cX0_prepare 109 = .ok (.ifCond .eq 23, 3) := by decide +kernel
theorem dX0_prepare_112 : decode cX0_prepare 112 = .ok (.aload_n 0, 1) := by decide +kernel
theorem dX0_prepare_113 : decode cX0_prepare 113 = .ok (.getfield 20, 3) := by decide +kernel
theorem dX0_prepare_116 : decode cX0_prepare 116 = .ok (.aload_n 0, 1) := by decide +kernel
theorem dX0_prepare_117 : decode cX0_prepare 117 = .ok (.getfield 24, 3) := by decide +kernel
theorem dX0_prepare_120 : decode cX0_prepare 120 = .ok (.iload_n 3, 1) := by decide +kernel
theorem dX0_prepare_121 : decode cX0_prepare 121 = .ok (.iastore, 1) := by decide +kernel
theorem dX0_prepare_122 : decode cX0_prepare 122 = .ok (.aload_n 0, 1) := by decide +kernel
theorem dX0_prepare_123 : decode cX0_prepare 123 = .ok (.dup, 1) := by decide +kernel
theorem dX0_prepare_124 : decode cX0_prepare 124 = .ok (.getfield 24, 3) := by decide +kernel
theorem dX0_prepare_127 : decode cX0_prepare 127 = .ok (.iconst 1, 1) := by decide +kernel
theorem dX0_prepare_128 : decode cX0_prepare 128 = .ok (.iadd, 1) := by decide +kernel
theorem dX0_prepare_129 : decode cX0_prepare 129 = .ok (.putfield 24, 3) := by decide +kernel
theorem dX0_prepare_132 : decode cX0_prepare 132 = .ok (.iinc 3 1, 3) := by decide +kernel
theorem dX0_prepare_135 : decode cX0_prepare 135 = .ok (.goto (-58), 3) := by decide +kernel
theorem dX0_prepare_138 : decode cX0_prepare 138 = .ok (.return_, 1) := by decide +kernel
theorem dX0_follower_0 : decode cX0_follower 0 = .ok (.iload_n 1, 1) := by decide +kernel
theorem dX0_follower_1 : decode cX0_follower 1 = .ok (.aload_n 0, 1) := by decide +kernel
theorem dX0_follower_2 : decode cX0_follower 2 = .ok (.getfield 31, 3) := by decide +kernel
theorem dX0_follower_5 : decode cX0_follower 5 = .ok (.invokestatic 50, 3) := by decide +kernel
theorem dX0_follower_8 : decode cX0_follower 8 = .ok (.iconst 1, 1) := by decide +kernel
theorem dX0_follower_9 : decode cX0_follower 9 = .ok (.if_icmp .eq 5, 3) := by decide +kernel
theorem dX0_follower_12 : decode cX0_follower 12 = .ok (.iconst (-1), 1) := by decide +kernel
theorem dX0_follower_13 : decode cX0_follower 13 = .ok (.ireturn, 1) := by decide +kernel
theorem dX0_follower_14 : decode cX0_follower 14 = .ok (.aload_n 0, 1) := by decide +kernel
theorem dX0_follower_15 : decode cX0_follower 15 = .ok (.getfield 28, 3) := by decide +kernel
theorem dX0_follower_18 : decode cX0_follower 18 = .ok (.aload_n 0, 1) := by decide +kernel
theorem dX0_follower_19 : decode cX0_follower 19 = .ok (.getfield 31, 3) := by decide +kernel
theorem dX0_follower_22 : decode cX0_follower 22 = .ok (.iload_n 1, 1) := by decide +kernel
theorem dX0_follower_23 : decode cX0_follower 23 = .ok (.invokestatic 54, 3) := by decide +kernel
theorem dX0_follower_26 : decode cX0_follower 26 = .ok (.istore_n 2, 1) := by decide +kernel
theorem dX0_follower_27 : decode cX0_follower 27 = .ok (.iload_n 2, 1) := by decide +kernel
theorem dX0_follower_28 : decode cX0_follower 28 = .ok (.bipush (-116), 2) := by decide +kernel
theorem dX0_follower_30 : decode cX0_follower 30 = .ok (.if_icmp .lt 16, 3) := by decide +kernel
theorem dX0_follower_33 : decode cX0_follower 33 = .ok (.iload_n 2, 1) := by decide +kernel
theorem dX0_follower_34 : decode cX0_follower 34 = .ok (.bipush 116, 2) := by decide +kernel
theorem dX0_follower_36 : decode cX0_follower 36 = .ok (.if_icmp .gt 10, 3) := by decide +kernel
theorem dX0_follower_39 : decode cX0_follower 39 = .ok (.iload_n 2, 1) := by decide +kernel
theorem dX0_follower_40 : decode cX0_follower 40 = .ok (.bipush 116, 2) := by decide +kernel
theorem dX0_follower_42 : decode cX0_follower 42 = .ok (.iadd, 1) := by decide +kernel
theorem dX0_follower_43 : decode cX0_follower 43 = .ok (.goto 4, 3) := by decide +kernel
theorem dX0_follower_46 : decode cX0_follower 46 = .ok (.iconst (-1), 1) := by decide +kernel
theorem dX0_follower_47 : decode cX0_follower 47 = .ok (.ireturn, 1) := by decide +kernel
theorem dX0_ofListed_0 : decode cX0_ofListed 0 = .ok (.iload_n 1, 1) := by decide +kernel
theorem dX0_ofListed_1 : decode cX0_ofListed 1 = .ok (.ifCond .lt 11, 3) := by decide +kernel
theorem dX0_ofListed_4 : decode cX0_ofListed 4 = .ok (.iload_n 1, 1) := by decide +kernel
theorem dX0_ofListed_5 : decode cX0_ofListed 5 = .ok (.aload_n 0, 1) := by decide +kernel
theorem dX0_ofListed_6 : decode cX0_ofListed 6 = .ok (.getfield 24, 3) := by decide +kernel
theorem dX0_ofListed_9 : decode cX0_ofListed 9 = .ok (.if_icmp .lt 6, 3) := by decide +kernel
theorem dX0_ofListed_12 : decode cX0_ofListed 12 = .ok (.ldc 58, 2) := by decide +kernel
theorem dX0_ofListed_14 : decode cX0_ofListed 14 = .ok (.ireturn, 1) := by decide +kernel
theorem dX0_ofListed_15 : decode cX0_ofListed 15 = .ok (.aload_n 0, 1) := by decide +kernel
theorem dX0_ofListed_16 : decode cX0_ofListed 16 = .ok (.getfield 20, 3) := by decide +kernel
theorem dX0_ofListed_19 : decode cX0_ofListed 19 = .ok (.iload_n 1, 1) := by decide +kernel
theorem dX0_ofListed_20 : decode cX0_ofListed 20 = .ok (.iaload, 1) := by decide +kernel
theorem dX0_ofListed_21 : decode cX0_ofListed 21 = .ok (.istore_n 3, 1) := by decide +kernel
theorem dX0_ofListed_22 : decode cX0_ofListed 22 = .ok (.iload_n 2, 1) := by decide +kernel
theorem dX0_ofListed_23 : decode cX0_ofListed 23 = .ok (.lookupswitch 40 #[(0, 25), (1, 30)], 25) := by decide +kernel
theorem dX0_ofListed_48 : decode cX0_ofListed 48 = .ok (.iload_n 3, 1) := by decide +kernel
theorem dX0_ofListed_49 : decode cX0_ofListed 49 = .ok (.bipush 116, 2) := by decide +kernel
theorem dX0_ofListed_51 : decode cX0_ofListed 51 = .ok (.isub, 1) := by decide +kernel
theorem dX0_ofListed_52 : decode cX0_ofListed 52 = .ok (.ireturn, 1) := by decide +kernel
theorem dX0_ofListed_53 : decode cX0_ofListed 53 = .ok (.aload_n 0, 1) := by decide +kernel
theorem dX0_ofListed_54 : decode cX0_ofListed 54 = .ok (.getfield 16, 3) := by decide +kernel
theorem dX0_ofListed_57 : decode cX0_ofListed 57 = .ok (.getfield 59, 3) := by decide +kernel
theorem dX0_ofListed_60 : decode cX0_ofListed 60 = .ok (.iload_n 3, 1) := by decide +kernel
theorem dX0_ofListed_61 : decode cX0_ofListed 61 = .ok (.iaload, 1) := by decide +kernel
theorem dX0_ofListed_62 : decode cX0_ofListed 62 = .ok (.ireturn, 1) := by decide +kernel
theorem dX0_ofListed_63 : decode cX0_ofListed 63 = .ok (.aload_n 0, 1) := by decide +kernel
theorem dX0_ofListed_64 : decode cX0_ofListed 64 = .ok (.getfield 16, 3) := by decide +kernel
theorem dX0_ofListed_67 : decode cX0_ofListed 67 = .ok (.getfield 47, 3) := by decide +kernel
theorem dX0_ofListed_70 : decode cX0_ofListed 70 = .ok (.iload_n 3, 1) := by decide +kernel
theorem dX0_ofListed_71 : decode cX0_ofListed 71 = .ok (.iaload, 1) := by decide +kernel
theorem dX0_ofListed_72 : decode cX0_ofListed 72 = .ok (.ireturn, 1) := by decide +kernel
theorem dX0_image_0 : decode cX0_image 0 = .ok (.iload_n 2, 1) := by decide +kernel
theorem dX0_image_1 : decode cX0_image 1 = .ok (.iload_n 2, 1) := by decide +kernel
theorem dX0_image_2 : decode cX0_image 2 = .ok (.imul, 1) := by decide +kernel
theorem dX0_image_3 : decode cX0_image 3 = .ok (.iload_n 0, 1) := by decide +kernel
theorem dX0_image_4 : decode cX0_image 4 = .ok (.iadd, 1) := by decide +kernel
theorem dX0_image_5 : decode cX0_image 5 = .ok (.istore_n 3, 1) := by decide +kernel
theorem dX0_image_6 : decode cX0_image 6 = .ok (.iload_n 1, 1) := by decide +kernel
theorem dX0_image_7 : decode cX0_image 7 = .ok (.ifCond .le 9, 3) := by decide +kernel
theorem dX0_image_10 : decode cX0_image 10 = .ok (.iload_n 3, 1) := by decide +kernel
theorem dX0_image_11 : decode cX0_image 11 = .ok (.iload_n 1, 1) := by decide +kernel
theorem dX0_image_12 : decode cX0_image 12 = .ok (.irem, 1) := by decide +kernel
theorem dX0_image_13 : decode cX0_image 13 = .ok (.ifCond .eq 6, 3) := by decide +kernel
theorem dX0_image_16 : decode cX0_image 16 = .ok (.ldc 58, 2) := by decide +kernel
theorem dX0_image_18 : decode cX0_image 18 = .ok (.ireturn, 1) := by decide +kernel
theorem dX0_image_19 : decode cX0_image 19 = .ok (.iload_n 3, 1) := by decide +kernel
theorem dX0_image_20 : decode cX0_image 20 = .ok (.iload_n 1, 1) := by decide +kernel
theorem dX0_image_21 : decode cX0_image 21 = .ok (.idiv, 1) := by decide +kernel
theorem dX0_image_22 : decode cX0_image 22 = .ok (.istore 4, 2) := by decide +kernel
theorem dX0_image_24 : decode cX0_image 24 = .ok (.iload 4, 2) := by decide +kernel
theorem dX0_image_26 : decode cX0_image 26 = .ok (.iload_n 1, 1) := by decide +kernel
theorem dX0_image_27 : decode cX0_image 27 = .ok (.invokestatic 50, 3) := by decide +kernel
theorem dX0_image_30 : decode cX0_image 30 = .ok (.iconst 1, 1) := by decide +kernel
theorem dX0_image_31 : decode cX0_image 31 = .ok (.if_icmp .ne 8, 3) := by decide +kernel
theorem dX0_image_34 : decode cX0_image 34 = .ok (.iload 4, 2) := by decide +kernel
theorem dX0_image_36 : decode cX0_image 36 = .ok (.goto 5, 3) := by decide +kernel
theorem dX0_image_39 : decode cX0_image 39 = .ok (.ldc 58, 2) := by decide +kernel
theorem dX0_image_41 : decode cX0_image 41 = .ok (.ireturn, 1) := by decide +kernel
theorem dX1_init_0 : decode cX1_init 0 = .ok (.aload_n 0, 1) := by decide +kernel
theorem dX1_init_1 : decode cX1_init 1 = .ok (.invokespecial 1, 3) := by decide +kernel
theorem dX1_init_4 : decode cX1_init 4 = .ok (.aload_n 0, 1) := by decide +kernel
theorem dX1_init_5 : decode cX1_init 5 = .ok (.iload_n 1, 1) := by decide +kernel
theorem dX1_init_6 : decode cX1_init 6 = .ok (.putfield 7, 3) := by decide +kernel
theorem dX1_init_9 : decode cX1_init 9 = .ok (.aload_n 0, 1) := by decide +kernel
theorem dX1_init_10 : decode cX1_init 10 = .ok (.iload_n 1, 1) := by decide +kernel
theorem dX1_init_11 : decode cX1_init 11 = .ok (.newarray .int, 2) := by decide +kernel
theorem dX1_init_13 : decode cX1_init 13 = .ok (.putfield 13, 3) := by decide +kernel
theorem dX1_init_16 : decode cX1_init 16 = .ok (.aload_n 0, 1) := by decide +kernel
theorem dX1_init_17 : decode cX1_init 17 = .ok (.iload_n 1, 1) := by decide +kernel
theorem dX1_init_18 : decode cX1_init 18 = .ok (.newarray .int, 2) := by decide +kernel
theorem dX1_init_20 : decode cX1_init 20 = .ok (.putfield 17, 3) := by decide +kernel
theorem dX1_init_23 : decode cX1_init 23 = .ok (.aload_n 0, 1) := by decide +kernel
theorem dX1_init_24 : decode cX1_init 24 = .ok (.iload_n 1, 1) := by decide +kernel
theorem dX1_init_25 : decode cX1_init 25 = .ok (.newarray .int, 2) := by decide +kernel
theorem dX1_init_27 : decode cX1_init 27 = .ok (.putfield 20, 3) := by decide +kernel
theorem dX1_init_30 : decode cX1_init 30 = .ok (.aload_n 0, 1) := by decide +kernel
theorem dX1_init_31 : decode cX1_init 31 = .ok (.iload_n 1, 1) := by decide +kernel
theorem dX1_init_32 : decode cX1_init 32 = .ok (.newarray .int, 2) := by decide +kernel
theorem dX1_init_34 : decode cX1_init 34 = .ok (.putfield 23, 3) := by decide +kernel
theorem dX1_init_37 : decode cX1_init 37 = .ok (.aload_n 0, 1) := by decide +kernel
theorem dX1_init_38 : decode cX1_init 38 = .ok (.iload_n 1, 1) := by decide +kernel
theorem dX1_init_39 : decode cX1_init 39 = .ok (.newarray .int, 2) := by decide +kernel
theorem dX1_init_41 : decode cX1_init 41 = .ok (.putfield 26, 3) := by decide +kernel
theorem dX1_init_44 : decode cX1_init 44 = .ok (.return_, 1) := by decide +kernel
theorem dX1_isInside_0 : decode cX1_isInside 0 = .ok (.iload_n 1, 1) := by decide +kernel
theorem dX1_isInside_1 : decode cX1_isInside 1 = .ok (.ifCond .lt 15, 3) := by decide +kernel
theorem dX1_isInside_4 : decode cX1_isInside 4 = .ok (.iload_n 1, 1) := by decide +kernel
theorem dX1_isInside_5 : decode cX1_isInside 5 = .ok (.aload_n 0, 1) := by decide +kernel
theorem dX1_isInside_6 : decode cX1_isInside 6 = .ok (.getfield 7, 3) := by decide +kernel
theorem dX1_isInside_9 : decode cX1_isInside 9 = .ok (.if_icmp .ge 7, 3) := by decide +kernel
theorem dX1_isInside_12 : decode cX1_isInside 12 = .ok (.iconst 1, 1) := by decide +kernel
theorem dX1_isInside_13 : decode cX1_isInside 13 = .ok (.goto 4, 3) := by decide +kernel
theorem dX1_isInside_16 : decode cX1_isInside 16 = .ok (.iconst 0, 1) := by decide +kernel
theorem dX1_isInside_17 : decode cX1_isInside 17 = .ok (.ireturn, 1) := by decide +kernel
theorem dX1_followAll_0 : decode cX1_followAll 0 = .ok (.aload_n 0, 1) := by decide +kernel
theorem dX1_followAll_1 : decode cX1_followAll 1 = .ok (.getfield 20, 3) := by decide +kernel
theorem dX1_followAll_4 : decode cX1_followAll 4 = .ok (.iconst (-1), 1) := by decide +kernel
theorem dX1_followAll_5 : decode cX1_followAll 5 = .ok (.invokestatic 29, 3) := by decide +kernel
theorem dX1_followAll_8 : decode cX1_followAll 8 = .ok (.iconst 0, 1) := by decide +kernel
theorem dX1_followAll_9 : decode cX1_followAll 9 = .ok (.istore_n 1, 1) := by decide +kernel
theorem dX1_followAll_10 : decode cX1_followAll 10 = .ok (.iload_n 1, 1) := by decide +kernel
theorem dX1_followAll_11 : decode cX1_followAll 11 = .ok (.aload_n 0, 1) := by decide +kernel
theorem dX1_followAll_12 : decode cX1_followAll 12 = .ok (.getfield 7, 3) := by decide +kernel
theorem dX1_followAll_15 : decode cX1_followAll 15 = .ok (.if_icmp .ge 14, 3) := by decide +kernel
theorem dX1_followAll_18 : decode cX1_followAll 18 = .ok (.aload_n 0, 1) := by decide +kernel
theorem dX1_followAll_19 : decode cX1_followAll 19 = .ok (.iload_n 1, 1) := by decide +kernel
theorem dX1_followAll_20 : decode cX1_followAll 20 = .ok (.invokevirtual 35, 3) := by decide +kernel
theorem dX1_followAll_23 : decode cX1_followAll 23 = .ok (.iinc 1 1, 3) := by decide +kernel
theorem dX1_followAll_26 : decode cX1_followAll 26 = .ok (.goto (-16), 3) := by decide +kernel
theorem dX1_followAll_29 : decode cX1_followAll 29 = .ok (.return_, 1) := by decide +kernel
theorem dX1_walkFrom_0 : decode cX1_walkFrom 0 = .ok (.iconst 0, 1) := by decide +kernel
theorem dX1_walkFrom_1 : decode cX1_walkFrom 1 = .ok (.istore_n 2, 1) := by decide +kernel
theorem dX1_walkFrom_2 : decode cX1_walkFrom 2 = .ok (.iload_n 1, 1) := by decide +kernel
theorem dX1_walkFrom_3 : decode cX1_walkFrom 3 = .ok (.istore_n 3, 1) := by decide +kernel
theorem dX1_walkFrom_4 : decode cX1_walkFrom 4 = .ok (.iload_n 2, 1) := by decide +kernel
theorem dX1_walkFrom_5 : decode cX1_walkFrom 5 = .ok (.aload_n 0, 1) := by decide +kernel
theorem dX1_walkFrom_6 : decode cX1_walkFrom 6 = .ok (.getfield 7, 3) := by decide +kernel
theorem dX1_walkFrom_9 : decode cX1_walkFrom 9 = .ok (.if_icmp .ge 49, 3) := by decide +kernel
theorem dX1_walkFrom_12 : decode cX1_walkFrom 12 = .ok (.aload_n 0, 1) := by decide +kernel
theorem dX1_walkFrom_13 : decode cX1_walkFrom 13 = .ok (.iload_n 3, 1) := by decide +kernel
theorem dX1_walkFrom_14 : decode cX1_walkFrom 14 = .ok (.invokevirtual 39, 3) := by decide +kernel
theorem dX1_walkFrom_17 : decode cX1_walkFrom 17 = .ok (.ifCond .eq 41, 3) := by decide +kernel
theorem dX1_walkFrom_20 : decode cX1_walkFrom 20 = .ok (.aload_n 0, 1) := by decide +kernel
theorem dX1_walkFrom_21 : decode cX1_walkFrom 21 = .ok (.getfield 20, 3) := by decide +kernel
theorem dX1_walkFrom_24 : decode cX1_walkFrom 24 = .ok (.iload_n 3, 1) := by decide +kernel
theorem dX1_walkFrom_25 : decode cX1_walkFrom 25 = .ok (.iaload, 1) := by decide +kernel
theorem dX1_walkFrom_26 : decode cX1_walkFrom 26 = .ok (.iconst (-1), 1) := by decide +kernel
theorem dX1_walkFrom_27 : decode cX1_walkFrom 27 = .ok (.if_icmp .ne 31, 3) := by decide +kernel
theorem dX1_walkFrom_30 : decode cX1_walkFrom 30 = .ok (.aload_n 0, 1) := by decide +kernel
theorem dX1_walkFrom_31 : decode cX1_walkFrom 31 = .ok (.getfield 20, 3) := by decide +kernel
theorem dX1_walkFrom_34 : decode cX1_walkFrom 34 = .ok (.iload_n 3, 1) := by decide +kernel
theorem dX1_walkFrom_35 : decode cX1_walkFrom 35 = .ok (.bipush (-2), 2) := by decide +kernel
theorem dX1_walkFrom_37 : decode cX1_walkFrom 37 = .ok (.iastore, 1) := by decide +kernel
theorem dX1_walkFrom_38 : decode cX1_walkFrom 38 = .ok (.aload_n 0, 1) := by decide +kernel
theorem dX1_walkFrom_39 : decode cX1_walkFrom 39 = .ok (.getfield 26, 3) := by decide +kernel
theorem dX1_walkFrom_42 : decode cX1_walkFrom 42 = .ok (.iload_n 2, 1) := by decide +kernel
theorem dX1_walkFrom_43 : decode cX1_walkFrom 43 = .ok (.iload_n 3, 1) := by decide +kernel
theorem dX1_walkFrom_44 : decode cX1_walkFrom 44 = .ok (.iastore, 1) := by decide +kernel
theorem dX1_walkFrom_45 : decode cX1_walkFrom 45 = .ok (.iinc 2 1, 3) := by decide +kernel
theorem dX1_walkFrom_48 : decode cX1_walkFrom 48 = .ok (.aload_n 0, 1) := by decide +kernel
theorem dX1_walkFrom_49 : decode cX1_walkFrom 49 = .ok (.getfield 13, 3) := by decide +kernel
theorem dX1_walkFrom_52 : decode cX1_walkFrom 52 = .ok (.iload_n 3, 1) := by decide +kernel
theorem dX1_walkFrom_53 : decode cX1_walkFrom 53 = .ok (.iaload, 1) := by decide +kernel
theorem dX1_walkFrom_54 : decode cX1_walkFrom 54 = .ok (.istore_n 3, 1) := by decide +kernel
theorem dX1_walkFrom_55 : decode cX1_walkFrom 55 = .ok (.goto (-51), 3) := by decide +kernel
theorem dX1_walkFrom_58 : decode cX1_walkFrom 58 = .ok (.aload_n 0, 1) := by decide +kernel
theorem dX1_walkFrom_59 : decode cX1_walkFrom 59 = .ok (.iload_n 3, 1) := by decide +kernel
theorem dX1_walkFrom_60 : decode cX1_walkFrom 60 = .ok (.invokevirtual 39, 3) := by decide +kernel
theorem dX1_walkFrom_63 : decode cX1_walkFrom 63 = .ok (.ifCond .eq 23, 3) := by decide +kernel
theorem dX1_walkFrom_66 : decode cX1_walkFrom 66 = .ok (.aload_n 0, 1) := by decide +kernel
theorem dX1_walkFrom_67 : decode cX1_walkFrom 67 = .ok (.getfield 20, 3) := by decide +kernel
theorem dX1_walkFrom_70 : decode cX1_walkFrom 70 = .ok (.iload_n 3, 1) := by decide +kernel
theorem dX1_walkFrom_71 : decode cX1_walkFrom 71 = .ok (.iaload, 1) := by decide +kernel
theorem dX1_walkFrom_72 : decode cX1_walkFrom 72 = .ok (.bipush (-2), 2) := by decide +kernel
theorem dX1_walkFrom_74 : decode cX1_walkFrom 74 = .ok (.if_icmp .ne 12, 3) := by decide +kernel
theorem dX1_walkFrom_77 : decode cX1_walkFrom 77 = .ok (.aload_n 0, 1) := by decide +kernel
theorem dX1_walkFrom_78 : decode cX1_walkFrom 78 = .ok (.iload_n 3, 1) := by decide +kernel
theorem dX1_walkFrom_79 : decode cX1_walkFrom 79 = .ok (.iload_n 2, 1) := by decide +kernel
theorem dX1_walkFrom_80 : decode cX1_walkFrom 80 = .ok (.invokevirtual 43, 3) := by decide +kernel
theorem dX1_walkFrom_83 : decode cX1_walkFrom 83 = .ok (.goto 4, 3) := by decide +kernel
theorem dX1_walkFrom_86 : decode cX1_walkFrom 86 = .ok (.iload_n 2, 1) := by decide +kernel
theorem dX1_walkFrom_87 : decode cX1_walkFrom 87 = .ok (.istore 4, 2) := by decide +kernel
theorem dX1_walkFrom_89 : decode cX1_walkFrom 89 = .ok (.iload 4, 2) := by decide +kernel
theorem dX1_walkFrom_91 : decode cX1_walkFrom 91 = .ok (.iconst 1, 1) := by decide +kernel
theorem dX1_walkFrom_92 : decode cX1_walkFrom 92 = .ok (.isub, 1) := by decide +kernel
theorem dX1_walkFrom_93 : decode cX1_walkFrom 93 = .ok (.istore 5, 2) := by decide +kernel
theorem dX1_walkFrom_95 : decode cX1_walkFrom 95 = .ok (.iload 5, 2) := by decide +kernel
theorem dX1_walkFrom_97 : decode cX1_walkFrom 97 = .ok (.ifCond .lt 20, 3) := by decide +kernel
theorem dX1_walkFrom_100 : decode cX1_walkFrom 100 = .ok (.aload_n 0, 1) := by decide +kernel
theorem dX1_walkFrom_101 : decode cX1_walkFrom 101 = .ok (.aload_n 0, 1) := by decide +kernel
theorem dX1_walkFrom_102 : decode cX1_walkFrom 102 = .ok (.getfield 26, 3) := by decide +kernel
theorem dX1_walkFrom_105 : decode cX1_walkFrom 105 = .ok (.iload 5, 2) := by decide +kernel
theorem dX1_walkFrom_107 : decode cX1_walkFrom 107 = .ok (.iaload, 1) := by decide +kernel
theorem dX1_walkFrom_108 : decode cX1_walkFrom 108 = .ok (.invokevirtual 47, 3) := by decide +kernel
theorem dX1_walkFrom_111 : decode cX1_walkFrom 111 = .ok (.iinc 5 (-1), 3) := by decide +kernel
theorem dX1_walkFrom_114 : decode cX1_walkFrom 114 = .ok (.goto (-19), 3) := by decide +kernel
theorem dX1_walkFrom_117 : decode cX1_walkFrom 117 = .ok (.return_, 1) := by decide +kernel
theorem dX1_closeRing_0 : decode cX1_closeRing 0 = .ok (.iload_n 2, 1) := by decide +kernel
theorem dX1_closeRing_1 : decode cX1_closeRing 1 = .ok (.iconst 1, 1) := by decide +kernel
theorem dX1_closeRing_2 : decode cX1_closeRing 2 = .ok (.isub, 1) := by decide +kernel
theorem dX1_closeRing_3 : decode cX1_closeRing 3 = .ok (.iconst 0, 1) := by decide +kernel
theorem dX1_closeRing_4 : decode cX1_closeRing 4 = .ok (.invokestatic 50, 3) := by decide +kernel
theorem dX1_closeRing_7 : decode cX1_closeRing 7 = .ok (.istore_n 3, 1) := by decide +kernel
theorem dX1_closeRing_8 : decode cX1_closeRing 8 = .ok (.iload_n 3, 1) := by decide +kernel
theorem dX1_closeRing_9 : decode cX1_closeRing 9 = .ok (.ifCond .le 19, 3) := by decide +kernel
theorem dX1_closeRing_12 : decode cX1_closeRing 12 = .ok (.aload_n 0, 1) := by decide +kernel
theorem dX1_closeRing_13 : decode cX1_closeRing 13 = .ok (.getfield 26, 3) := by decide +kernel
theorem dX1_closeRing_16 : decode cX1_closeRing 16 = .ok (.iload_n 3, 1) := by decide +kernel
theorem dX1_closeRing_17 : decode cX1_closeRing 17 = .ok (.iaload, 1) := by decide +kernel
theorem dX1_closeRing_18 : decode cX1_closeRing 18 = .ok (.iload_n 1, 1) := by decide +kernel
theorem dX1_closeRing_19 : decode cX1_closeRing 19 = .ok (.if_icmp .eq 9, 3) := by decide +kernel
theorem dX1_closeRing_22 : decode cX1_closeRing 22 = .ok (.iinc 3 (-1), 3) := by decide +kernel
theorem dX1_closeRing_25 : decode cX1_closeRing 25 = .ok (.goto (-17), 3) := by decide +kernel
theorem dX1_closeRing_28 : decode cX1_closeRing 28 = .ok (.iload_n 3, 1) := by decide +kernel
theorem dX1_closeRing_29 : decode cX1_closeRing 29 = .ok (.istore 4, 2) := by decide +kernel
theorem dX1_closeRing_31 : decode cX1_closeRing 31 = .ok (.iload 4, 2) := by decide +kernel
theorem dX1_closeRing_33 : decode cX1_closeRing 33 = .ok (.iload_n 2, 1) := by decide +kernel
theorem dX1_closeRing_34 : decode cX1_closeRing 34 = .ok (.if_icmp .ge 56, 3) := by decide +kernel
theorem dX1_closeRing_37 : decode cX1_closeRing 37 = .ok (.aload_n 0, 1) := by decide +kernel
theorem dX1_closeRing_38 : decode cX1_closeRing 38 = .ok (.getfield 17, 3) := by decide +kernel
theorem dX1_closeRing_41 : decode cX1_closeRing 41 = .ok (.aload_n 0, 1) := by decide +kernel
theorem dX1_closeRing_42 : decode cX1_closeRing 42 = .ok (.getfield 26, 3) := by decide +kernel
theorem dX1_closeRing_45 : decode cX1_closeRing 45 = .ok (.iload 4, 2) := by decide +kernel
theorem dX1_closeRing_47 : decode cX1_closeRing 47 = .ok (.iaload, 1) := by decide +kernel
theorem dX1_closeRing_48 : decode cX1_closeRing 48 = .ok (.iconst 0, 1) := by decide +kernel
theorem dX1_closeRing_49 : decode cX1_closeRing 49 = .ok (.iastore, 1) := by decide +kernel
theorem dX1_closeRing_50 : decode cX1_closeRing 50 = .ok (.aload_n 0, 1) := by decide +kernel
theorem dX1_closeRing_51 : decode cX1_closeRing 51 = .ok (.getfield 20, 3) := by decide +kernel
theorem dX1_closeRing_54 : decode cX1_closeRing 54 = .ok (.aload_n 0, 1) := by decide +kernel
theorem dX1_closeRing_55 : decode cX1_closeRing 55 = .ok (.getfield 26, 3) := by decide +kernel
theorem dX1_closeRing_58 : decode cX1_closeRing 58 = .ok (.iload 4, 2) := by decide +kernel
theorem dX1_closeRing_60 : decode cX1_closeRing 60 = .ok (.iaload, 1) := by decide +kernel
theorem dX1_closeRing_61 : decode cX1_closeRing 61 = .ok (.iload_n 2, 1) := by decide +kernel
theorem dX1_closeRing_62 : decode cX1_closeRing 62 = .ok (.iload_n 3, 1) := by decide +kernel
theorem dX1_closeRing_63 : decode cX1_closeRing 63 = .ok (.isub, 1) := by decide +kernel
theorem dX1_closeRing_64 : decode cX1_closeRing 64 = .ok (.iastore, 1) := by decide +kernel
theorem dX1_closeRing_65 : decode cX1_closeRing 65 = .ok (.aload_n 0, 1) := by decide +kernel
theorem dX1_closeRing_66 : decode cX1_closeRing 66 = .ok (.getfield 23, 3) := by decide +kernel
theorem dX1_closeRing_69 : decode cX1_closeRing 69 = .ok (.aload_n 0, 1) := by decide +kernel
theorem dX1_closeRing_70 : decode cX1_closeRing 70 = .ok (.getfield 26, 3) := by decide +kernel
theorem dX1_closeRing_73 : decode cX1_closeRing 73 = .ok (.iload 4, 2) := by decide +kernel
theorem dX1_closeRing_75 : decode cX1_closeRing 75 = .ok (.iaload, 1) := by decide +kernel
theorem dX1_closeRing_76 : decode cX1_closeRing 76 = .ok (.aload_n 0, 1) := by decide +kernel
theorem dX1_closeRing_77 : decode cX1_closeRing 77 = .ok (.getfield 26, 3) := by decide +kernel
theorem dX1_closeRing_80 : decode cX1_closeRing 80 = .ok (.iload 4, 2) := by decide +kernel
theorem dX1_closeRing_82 : decode cX1_closeRing 82 = .ok (.iaload, 1) := by decide +kernel
theorem dX1_closeRing_83 : decode cX1_closeRing 83 = .ok (.iastore, 1) := by decide +kernel
theorem dX1_closeRing_84 : decode cX1_closeRing 84 = .ok (.iinc 4 1, 3) := by decide +kernel
theorem dX1_closeRing_87 : decode cX1_closeRing 87 = .ok (.goto (-56), 3) := by decide +kernel
theorem dX1_closeRing_90 : decode cX1_closeRing 90 = .ok (.iload_n 3, 1) := by decide +kernel
theorem dX1_closeRing_91 : decode cX1_closeRing 91 = .ok (.ireturn, 1) := by decide +kernel
theorem dX1_hang_0 : decode cX1_hang 0 = .ok (.aload_n 0, 1) := by decide +kernel
theorem dX1_hang_1 : decode cX1_hang 1 = .ok (.getfield 13, 3) := by decide +kernel
theorem dX1_hang_4 : decode cX1_hang 4 = .ok (.iload_n 1, 1) := by decide +kernel
theorem dX1_hang_5 : decode cX1_hang 5 = .ok (.iaload, 1) := by decide +kernel
theorem dX1_hang_6 : decode cX1_hang 6 = .ok (.istore_n 2, 1) := by decide +kernel
theorem dX1_hang_7 : decode cX1_hang 7 = .ok (.aload_n 0, 1) := by decide +kernel
theorem dX1_hang_8 : decode cX1_hang 8 = .ok (.iload_n 2, 1) := by decide +kernel
theorem dX1_hang_9 : decode cX1_hang 9 = .ok (.invokevirtual 39, 3) := by decide +kernel
theorem dX1_hang_12 : decode cX1_hang 12 = .ok (.ifCond .eq 53, 3) := by decide +kernel
theorem dX1_hang_15 : decode cX1_hang 15 = .ok (.aload_n 0, 1) := by decide +kernel
theorem dX1_hang_16 : decode cX1_hang 16 = .ok (.getfield 20, 3) := by decide +kernel
theorem dX1_hang_19 : decode cX1_hang 19 = .ok (.iload_n 2, 1) := by decide +kernel
theorem dX1_hang_20 : decode cX1_hang 20 = .ok (.iaload, 1) := by decide +kernel
theorem dX1_hang_21 : decode cX1_hang 21 = .ok (.ifCond .eq 44, 3) := by decide +kernel
theorem dX1_hang_24 : decode cX1_hang 24 = .ok (.aload_n 0, 1) := by decide +kernel
theorem dX1_hang_25 : decode cX1_hang 25 = .ok (.getfield 17, 3) := by decide +kernel
theorem dX1_hang_28 : decode cX1_hang 28 = .ok (.iload_n 1, 1) := by decide +kernel
theorem dX1_hang_29 : decode cX1_hang 29 = .ok (.aload_n 0, 1) := by decide +kernel
theorem dX1_hang_30 : decode cX1_hang 30 = .ok (.getfield 17, 3) := by decide +kernel
theorem dX1_hang_33 : decode cX1_hang 33 = .ok (.iload_n 2, 1) := by decide +kernel
theorem dX1_hang_34 : decode cX1_hang 34 = .ok (.iaload, 1) := by decide +kernel
theorem dX1_hang_35 : decode cX1_hang 35 = .ok (.iconst 1, 1) := by decide +kernel
theorem dX1_hang_36 : decode cX1_hang 36 = .ok (.iadd, 1) := by decide +kernel
theorem dX1_hang_37 : decode cX1_hang 37 = .ok (.iastore, 1) := by decide +kernel
theorem dX1_hang_38 : decode cX1_hang 38 = .ok (.aload_n 0, 1) := by decide +kernel
theorem dX1_hang_39 : decode cX1_hang 39 = .ok (.getfield 20, 3) := by decide +kernel
theorem dX1_hang_42 : decode cX1_hang 42 = .ok (.iload_n 1, 1) := by decide +kernel
theorem dX1_hang_43 : decode cX1_hang 43 = .ok (.aload_n 0, 1) := by decide +kernel
theorem dX1_hang_44 : decode cX1_hang 44 = .ok (.getfield 20, 3) := by decide +kernel
theorem dX1_hang_47 : decode cX1_hang 47 = .ok (.iload_n 2, 1) := by decide +kernel
theorem dX1_hang_48 : decode cX1_hang 48 = .ok (.iaload, 1) := by decide +kernel
theorem dX1_hang_49 : decode cX1_hang 49 = .ok (.iastore, 1) := by decide +kernel
theorem dX1_hang_50 : decode cX1_hang 50 = .ok (.aload_n 0, 1) := by decide +kernel
theorem dX1_hang_51 : decode cX1_hang 51 = .ok (.getfield 23, 3) := by decide +kernel
theorem dX1_hang_54 : decode cX1_hang 54 = .ok (.iload_n 1, 1) := by decide +kernel
theorem dX1_hang_55 : decode cX1_hang 55 = .ok (.aload_n 0, 1) := by decide +kernel
theorem dX1_hang_56 : decode cX1_hang 56 = .ok (.getfield 23, 3) := by decide +kernel
theorem dX1_hang_59 : decode cX1_hang 59 = .ok (.iload_n 2, 1) := by decide +kernel
theorem dX1_hang_60 : decode cX1_hang 60 = .ok (.iaload, 1) := by decide +kernel
theorem dX1_hang_61 : decode cX1_hang 61 = .ok (.iastore, 1) := by decide +kernel
theorem dX1_hang_62 : decode cX1_hang 62 = .ok (.goto 24, 3) := by decide +kernel
theorem dX1_hang_65 : decode cX1_hang 65 = .ok (.aload_n 0, 1) := by decide +kernel
theorem dX1_hang_66 : decode cX1_hang 66 = .ok (.getfield 17, 3) := by decide +kernel
theorem dX1_hang_69 : decode cX1_hang 69 = .ok (.iload_n 1, 1) := by decide +kernel
theorem dX1_hang_70 : decode cX1_hang 70 = .ok (.iconst 0, 1) := by decide +kernel
theorem dX1_hang_71 : decode cX1_hang 71 = .ok (.iastore, 1) := by decide +kernel
theorem dX1_hang_72 : decode cX1_hang 72 = .ok (.aload_n 0, 1) := by decide +kernel
theorem dX1_hang_73 : decode cX1_hang 73 = .ok (.getfield 20, 3) := by decide +kernel
theorem dX1_hang_76 : decode cX1_hang 76 = .ok (.iload_n 1, 1) := by decide +kernel
theorem dX1_hang_77 : decode cX1_hang 77 = .ok (.iconst 0, 1) := by decide +kernel
theorem dX1_hang_78 : decode cX1_hang 78 = .ok (.iastore, 1) := by decide +kernel
theorem dX1_hang_79 : decode cX1_hang 79 = .ok (.aload_n 0, 1) := by decide +kernel
theorem dX1_hang_80 : decode cX1_hang 80 = .ok (.getfield 23, 3) := by decide +kernel
theorem dX1_hang_83 : decode cX1_hang 83 = .ok (.iload_n 1, 1) := by decide +kernel
theorem dX1_hang_84 : decode cX1_hang 84 = .ok (.iload_n 1, 1) := by decide +kernel
theorem dX1_hang_85 : decode cX1_hang 85 = .ok (.iastore, 1) := by decide +kernel
theorem dX1_hang_86 : decode cX1_hang 86 = .ok (.return_, 1) := by decide +kernel
theorem dX1_after_0 : decode cX1_after 0 = .ok (.iload_n 2, 1) := by decide +kernel
theorem dX1_after_1 : decode cX1_after 1 = .ok (.istore_n 3, 1) := by decide +kernel
theorem dX1_after_2 : decode cX1_after 2 = .ok (.iload_n 2, 1) := by decide +kernel
theorem dX1_after_3 : decode cX1_after 3 = .ok (.aload_n 0, 1) := by decide +kernel
theorem dX1_after_4 : decode cX1_after 4 = .ok (.getfield 17, 3) := by decide +kernel
theorem dX1_after_7 : decode cX1_after 7 = .ok (.iload_n 1, 1) := by decide +kernel
theorem dX1_after_8 : decode cX1_after 8 = .ok (.iaload, 1) := by decide +kernel
theorem dX1_after_9 : decode cX1_after 9 = .ok (.if_icmp .le 35, 3) := by decide +kernel
theorem dX1_after_12 : decode cX1_after 12 = .ok (.aload_n 0, 1) := by decide +kernel
theorem dX1_after_13 : decode cX1_after 13 = .ok (.getfield 20, 3) := by decide +kernel
theorem dX1_after_16 : decode cX1_after 16 = .ok (.iload_n 1, 1) := by decide +kernel
theorem dX1_after_17 : decode cX1_after 17 = .ok (.iaload, 1) := by decide +kernel
theorem dX1_after_18 : decode cX1_after 18 = .ok (.ifCond .le 26, 3) := by decide +kernel
theorem dX1_after_21 : decode cX1_after 21 = .ok (.aload_n 0, 1) := by decide +kernel
theorem dX1_after_22 : decode cX1_after 22 = .ok (.getfield 17, 3) := by decide +kernel
theorem dX1_after_25 : decode cX1_after 25 = .ok (.iload_n 1, 1) := by decide +kernel
theorem dX1_after_26 : decode cX1_after 26 = .ok (.iaload, 1) := by decide +kernel
theorem dX1_after_27 : decode cX1_after 27 = .ok (.iload_n 2, 1) := by decide +kernel
theorem dX1_after_28 : decode cX1_after 28 = .ok (.aload_n 0, 1) := by decide +kernel
theorem dX1_after_29 : decode cX1_after 29 = .ok (.getfield 17, 3) := by decide +kernel
theorem dX1_after_32 : decode cX1_after 32 = .ok (.iload_n 1, 1) := by decide +kernel
theorem dX1_after_33 : decode cX1_after 33 = .ok (.iaload, 1) := by decide +kernel
theorem dX1_after_34 : decode cX1_after 34 = .ok (.isub, 1) := by decide +kernel
theorem dX1_after_35 : decode cX1_after 35 = .ok (.aload_n 0, 1) := by decide +kernel
theorem dX1_after_36 : decode cX1_after 36 = .ok (.getfield 20, 3) := by decide +kernel
theorem dX1_after_39 : decode cX1_after 39 = .ok (.iload_n 1, 1) := by decide +kernel
theorem dX1_after_40 : decode cX1_after 40 = .ok (.iaload, 1) := by decide +kernel
theorem dX1_after_41 : decode cX1_after 41 = .ok (.irem, 1) := by decide +kernel
theorem dX1_after_42 : decode cX1_after 42 = .ok (.iadd, 1) := by decide +kernel
theorem dX1_after_43 : decode cX1_after 43 = .ok (.istore_n 3, 1) := by decide +kernel
theorem dX1_after_44 : decode cX1_after 44 = .ok (.iload_n 1, 1) := by decide +kernel
theorem dX1_after_45 : decode cX1_after 45 = .ok (.istore 4, 2) := by decide +kernel
theorem dX1_after_47 : decode cX1_after 47 = .ok (.iconst 0, 1) := by decide +kernel
theorem dX1_after_48 : decode cX1_after 48 = .ok (.istore 5, 2) := by decide +kernel
theorem dX1_after_50 : decode cX1_after 50 = .ok (.iload 5, 2) := by decide +kernel
theorem dX1_after_52 : decode cX1_after 52 = .ok (.iload_n 3, 1) := by decide +kernel
theorem dX1_after_53 : decode cX1_after 53 = .ok (.if_icmp .ge 27, 3) := by decide +kernel
theorem dX1_after_56 : decode cX1_after 56 = .ok (.aload_n 0, 1) := by decide +kernel
theorem dX1_after_57 : decode cX1_after 57 = .ok (.iload 4, 2) := by decide +kernel
theorem dX1_after_59 : decode cX1_after 59 = .ok (.invokevirtual 39, 3) := by decide +kernel
theorem dX1_after_62 : decode cX1_after 62 = .ok (.ifCond .eq 18, 3) := by decide +kernel
theorem dX1_after_65 : decode cX1_after 65 = .ok (.aload_n 0, 1) := by decide +kernel
theorem dX1_after_66 : decode cX1_after 66 = .ok (.getfield 13, 3) := by decide +kernel
theorem dX1_after_69 : decode cX1_after 69 = .ok (.iload 4, 2) := by decide +kernel
theorem dX1_after_71 : decode cX1_after 71 = .ok (.iaload, 1) := by decide +kernel
theorem dX1_after_72 : decode cX1_after 72 = .ok (.istore 4, 2) := by decide +kernel
theorem dX1_after_74 : decode cX1_after 74 = .ok (.iinc 5 1, 3) := by decide +kernel
theorem dX1_after_77 : decode cX1_after 77 = .ok (.goto (-27), 3) := by decide +kernel
theorem dX1_after_80 : decode cX1_after 80 = .ok (.iload 4, 2) := by decide +kernel
theorem dX1_after_82 : decode cX1_after 82 = .ok (.ireturn, 1) := by decide +kernel
theorem dX2_init_0 : decode cX2_init 0 = .ok (.aload_n 0, 1) := by decide +kernel
theorem dX2_init_1 : decode cX2_init 1 = .ok (.invokespecial 3, 3) := by decide +kernel
theorem dX2_init_4 : decode cX2_init 4 = .ok (.aload_n 0, 1) := by decide +kernel
theorem dX2_init_5 : decode cX2_init 5 = .ok (.iload_n 2, 1) := by decide +kernel
theorem dX2_init_6 : decode cX2_init 6 = .ok (.putfield 9, 3) := by decide +kernel
theorem dX2_init_9 : decode cX2_init 9 = .ok (.aload_n 0, 1) := by decide +kernel
theorem dX2_init_10 : decode cX2_init 10 = .ok (.aload_n 1, 1) := by decide +kernel
theorem dX2_init_11 : decode cX2_init 11 = .ok (.putfield 15, 3) := by decide +kernel
theorem dX2_init_14 : decode cX2_init 14 = .ok (.aload_n 0, 1) := by decide +kernel
theorem dX2_init_15 : decode cX2_init 15 = .ok (.aload_n 1, 1) := by decide +kernel
theorem dX2_init_16 : decode cX2_init 16 = .ok (.invokestatic 19, 3) := by decide +kernel
theorem dX2_init_19 : decode cX2_init 19 = .ok (.putfield 23, 3) := by decide +kernel
theorem dX2_init_22 : decode cX2_init 22 = .ok (.aload_n 0, 1) := by decide +kernel
theorem dX2_init_23 : decode cX2_init 23 = .ok (.aload_n 1, 1) := by decide +kernel
theorem dX2_init_24 : decode cX2_init 24 = .ok (.aload_n 0, 1) := by decide +kernel
theorem dX2_init_25 : decode cX2_init 25 = .ok (.getfield 23, 3) := by decide +kernel
theorem dX2_init_28 : decode cX2_init 28 = .ok (.invokestatic 26, 3) := by decide +kernel
theorem dX2_init_31 : decode cX2_init 31 = .ok (.putfield 30, 3) := by decide +kernel
theorem dX2_init_34 : decode cX2_init 34 = .ok (.return_, 1) := by decide +kernel
theorem dX2_degreeOf_0 : decode cX2_degreeOf 0 = .ok (.aload_n 0, 1) := by decide +kernel
theorem dX2_degreeOf_1 : decode cX2_degreeOf 1 = .ok (.arraylength, 1) := by decide +kernel
theorem dX2_degreeOf_2 : decode cX2_degreeOf 2 = .ok (.iconst 1, 1) := by decide +kernel
theorem dX2_degreeOf_3 : decode cX2_degreeOf 3 = .ok (.isub, 1) := by decide +kernel
theorem dX2_degreeOf_4 : decode cX2_degreeOf 4 = .ok (.istore_n 1, 1) := by decide +kernel
theorem dX2_degreeOf_5 : decode cX2_degreeOf 5 = .ok (.iload_n 1, 1) := by decide +kernel
theorem dX2_degreeOf_6 : decode cX2_degreeOf 6 = .ok (.ifCond .le 15, 3) := by decide +kernel
theorem dX2_degreeOf_9 : decode cX2_degreeOf 9 = .ok (.aload_n 0, 1) := by decide +kernel
theorem dX2_degreeOf_10 : decode cX2_degreeOf 10 = .ok (.iload_n 1, 1) := by decide +kernel
theorem dX2_degreeOf_11 : decode cX2_degreeOf 11 = .ok (.iaload, 1) := by decide +kernel
theorem dX2_degreeOf_12 : decode cX2_degreeOf 12 = .ok (.ifCond .ne 9, 3) := by decide +kernel
theorem dX2_degreeOf_15 : decode cX2_degreeOf 15 = .ok (.iinc 1 (-1), 3) := by decide +kernel
theorem dX2_degreeOf_18 : decode cX2_degreeOf 18 = .ok (.goto (-13), 3) := by decide +kernel
theorem dX2_degreeOf_21 : decode cX2_degreeOf 21 = .ok (.iload_n 1, 1) := by decide +kernel
theorem dX2_degreeOf_22 : decode cX2_degreeOf 22 = .ok (.ireturn, 1) := by decide +kernel
theorem dX2_toldOf_0 : decode cX2_toldOf 0 = .ok (.iload_n 1, 1) := by decide +kernel
theorem dX2_toldOf_1 : decode cX2_toldOf 1 = .ok (.tableswitch 50 0 2 #[27, 29, 31], 27) := by decide +kernel
theorem dX2_toldOf_28 : decode cX2_toldOf 28 = .ok (.iconst 1, 1) := by decide +kernel
theorem dX2_toldOf_29 : decode cX2_toldOf 29 = .ok (.ireturn, 1) := by decide +kernel
theorem dX2_toldOf_30 : decode cX2_toldOf 30 = .ok (.iconst 2, 1) := by decide +kernel
theorem dX2_toldOf_31 : decode cX2_toldOf 31 = .ok (.ireturn, 1) := by decide +kernel
theorem dX2_toldOf_32 : decode cX2_toldOf 32 = .ok (.aload_n 0, 1) := by decide +kernel
theorem dX2_toldOf_33 : decode cX2_toldOf 33 = .ok (.iconst 2, 1) := by decide +kernel
theorem dX2_toldOf_34 : decode cX2_toldOf 34 = .ok (.iaload, 1) := by decide +kernel
theorem dX2_toldOf_35 : decode cX2_toldOf 35 = .ok (.iconst 1, 1) := by decide +kernel
theorem dX2_toldOf_36 : decode cX2_toldOf 36 = .ok (.if_icmp .ne 13, 3) := by decide +kernel
theorem dX2_toldOf_39 : decode cX2_toldOf 39 = .ok (.aload_n 0, 1) := by decide +kernel
theorem dX2_toldOf_40 : decode cX2_toldOf 40 = .ok (.iconst 1, 1) := by decide +kernel
theorem dX2_toldOf_41 : decode cX2_toldOf 41 = .ok (.iaload, 1) := by decide +kernel
theorem dX2_toldOf_42 : decode cX2_toldOf 42 = .ok (.ifCond .ne 7, 3) := by decide +kernel
theorem dX2_toldOf_45 : decode cX2_toldOf 45 = .ok (.iconst 4, 1) := by decide +kernel
theorem dX2_toldOf_46 : decode cX2_toldOf 46 = .ok (.goto 4, 3) := by decide +kernel
theorem dX2_toldOf_49 : decode cX2_toldOf 49 = .ok (.iconst 3, 1) := by decide +kernel
theorem dX2_toldOf_50 : decode cX2_toldOf 50 = .ok (.ireturn, 1) := by decide +kernel
theorem dX2_toldOf_51 : decode cX2_toldOf 51 = .ok (.iconst 5, 1) := by decide +kernel
theorem dX2_toldOf_52 : decode cX2_toldOf 52 = .ok (.ireturn, 1) := by decide +kernel
theorem dX2_fits_0 : decode cX2_fits 0 = .ok (.iload_n 1, 1) := by decide +kernel
theorem dX2_fits_1 : decode cX2_fits 1 = .ok (.ifCond .eq 24, 3) := by decide +kernel
theorem dX2_fits_4 : decode cX2_fits 4 = .ok (.iload_n 1, 1) := by decide +kernel
theorem dX2_fits_5 : decode cX2_fits 5 = .ok (.aload_n 0, 1) := by decide +kernel
theorem dX2_fits_6 : decode cX2_fits 6 = .ok (.getfield 30, 3) := by decide +kernel
theorem dX2_fits_9 : decode cX2_fits 9 = .ok (.if_icmp .eq 16, 3) := by decide +kernel
theorem dX2_fits_12 : decode cX2_fits 12 = .ok (.iload_n 1, 1) := by decide +kernel
theorem dX2_fits_13 : decode cX2_fits 13 = .ok (.iconst 3, 1) := by decide +kernel
theorem dX2_fits_14 : decode cX2_fits 14 = .ok (.if_icmp .ne 15, 3) := by decide +kernel
theorem dX2_fits_17 : decode cX2_fits 17 = .ok (.aload_n 0, 1) := by decide +kernel
theorem dX2_fits_18 : decode cX2_fits 18 = .ok (.getfield 30, 3) := by decide +kernel
theorem dX2_fits_21 : decode cX2_fits 21 = .ok (.iconst 4, 1) := by decide +kernel
theorem dX2_fits_22 : decode cX2_fits 22 = .ok (.if_icmp .ne 7, 3) := by decide +kernel
theorem dX2_fits_25 : decode cX2_fits 25 = .ok (.iconst 1, 1) := by decide +kernel
theorem dX2_fits_26 : decode cX2_fits 26 = .ok (.goto 4, 3) := by decide +kernel
theorem dX2_fits_29 : decode cX2_fits 29 = .ok (.iconst 0, 1) := by decide +kernel
theorem dX2_fits_30 : decode cX2_fits 30 = .ok (.ireturn, 1) := by decide +kernel
theorem dX2_valueAt_0 : decode cX2_valueAt 0 = .ok (.iconst 0, 1) := by decide +kernel
theorem dX2_valueAt_1 : decode cX2_valueAt 1 = .ok (.istore_n 2, 1) := by decide +kernel
theorem dX2_valueAt_2 : decode cX2_valueAt 2 = .ok (.aload_n 0, 1) := by decide +kernel
theorem dX2_valueAt_3 : decode cX2_valueAt 3 = .ok (.getfield 23, 3) := by decide +kernel
theorem dX2_valueAt_6 : decode cX2_valueAt 6 = .ok (.istore_n 3, 1) := by decide +kernel
theorem dX2_valueAt_7 : decode cX2_valueAt 7 = .ok (.iload_n 3, 1) := by decide +kernel
theorem dX2_valueAt_8 : decode cX2_valueAt 8 = .ok (.ifCond .lt 25, 3) := by decide +kernel
theorem dX2_valueAt_11 : decode cX2_valueAt 11 = .ok (.iload_n 2, 1) := by decide +kernel
theorem dX2_valueAt_12 : decode cX2_valueAt 12 = .ok (.iload_n 1, 1) := by decide +kernel
theorem dX2_valueAt_13 : decode cX2_valueAt 13 = .ok (.imul, 1) := by decide +kernel
theorem dX2_valueAt_14 : decode cX2_valueAt 14 = .ok (.aload_n 0, 1) := by decide +kernel
theorem dX2_valueAt_15 : decode cX2_valueAt 15 = .ok (.getfield 15, 3) := by decide +kernel
theorem dX2_valueAt_18 : decode cX2_valueAt 18 = .ok (.iload_n 3, 1) := by decide +kernel
theorem dX2_valueAt_19 : decode cX2_valueAt 19 = .ok (.iaload, 1) := by decide +kernel
theorem dX2_valueAt_20 : decode cX2_valueAt 20 = .ok (.iadd, 1) := by decide +kernel
theorem dX2_valueAt_21 : decode cX2_valueAt 21 = .ok (.aload_n 0, 1) := by decide +kernel
theorem dX2_valueAt_22 : decode cX2_valueAt 22 = .ok (.getfield 9, 3) := by decide +kernel
theorem dX2_valueAt_25 : decode cX2_valueAt 25 = .ok (.irem, 1) := by decide +kernel
theorem dX2_valueAt_26 : decode cX2_valueAt 26 = .ok (.istore_n 2, 1) := by decide +kernel
theorem dX2_valueAt_27 : decode cX2_valueAt 27 = .ok (.iinc 3 (-1), 3) := by decide +kernel
theorem dX2_valueAt_30 : decode cX2_valueAt 30 = .ok (.goto (-23), 3) := by decide +kernel
theorem dX2_valueAt_33 : decode cX2_valueAt 33 = .ok (.iload_n 2, 1) := by decide +kernel
theorem dX2_valueAt_34 : decode cX2_valueAt 34 = .ok (.ireturn, 1) := by decide +kernel
theorem dX2_slopeAt_0 : decode cX2_slopeAt 0 = .ok (.iconst 0, 1) := by decide +kernel
theorem dX2_slopeAt_1 : decode cX2_slopeAt 1 = .ok (.istore_n 2, 1) := by decide +kernel
theorem dX2_slopeAt_2 : decode cX2_slopeAt 2 = .ok (.aload_n 0, 1) := by decide +kernel
theorem dX2_slopeAt_3 : decode cX2_slopeAt 3 = .ok (.getfield 23, 3) := by decide +kernel
theorem dX2_slopeAt_6 : decode cX2_slopeAt 6 = .ok (.istore_n 3, 1) := by decide +kernel
theorem dX2_slopeAt_7 : decode cX2_slopeAt 7 = .ok (.iload_n 3, 1) := by decide +kernel
theorem dX2_slopeAt_8 : decode cX2_slopeAt 8 = .ok (.iconst 1, 1) := by decide +kernel
theorem dX2_slopeAt_9 : decode cX2_slopeAt 9 = .ok (.if_icmp .lt 27, 3) := by decide +kernel
theorem dX2_slopeAt_12 : decode cX2_slopeAt 12 = .ok (.iload_n 2, 1) := by decide +kernel
theorem dX2_slopeAt_13 : decode cX2_slopeAt 13 = .ok (.iload_n 1, 1) := by decide +kernel
theorem dX2_slopeAt_14 : decode cX2_slopeAt 14 = .ok (.imul, 1) := by decide +kernel
theorem dX2_slopeAt_15 : decode cX2_slopeAt 15 = .ok (.iload_n 3, 1) := by decide +kernel
theorem dX2_slopeAt_16 : decode cX2_slopeAt 16 = .ok (.aload_n 0, 1) := by decide +kernel
theorem dX2_slopeAt_17 : decode cX2_slopeAt 17 = .ok (.getfield 15, 3) := by decide +kernel
theorem dX2_slopeAt_20 : decode cX2_slopeAt 20 = .ok (.iload_n 3, 1) := by decide +kernel
theorem dX2_slopeAt_21 : decode cX2_slopeAt 21 = .ok (.iaload, 1) := by decide +kernel
theorem dX2_slopeAt_22 : decode cX2_slopeAt 22 = .ok (.imul, 1) := by decide +kernel
theorem dX2_slopeAt_23 : decode cX2_slopeAt 23 = .ok (.iadd, 1) := by decide +kernel
theorem dX2_slopeAt_24 : decode cX2_slopeAt 24 = .ok (.aload_n 0, 1) := by decide +kernel
theorem dX2_slopeAt_25 : decode cX2_slopeAt 25 = .ok (.getfield 9, 3) := by decide +kernel
theorem dX2_slopeAt_28 : decode cX2_slopeAt 28 = .ok (.irem, 1) := by decide +kernel
theorem dX2_slopeAt_29 : decode cX2_slopeAt 29 = .ok (.istore_n 2, 1) := by decide +kernel
theorem dX2_slopeAt_30 : decode cX2_slopeAt 30 = .ok (.iinc 3 (-1), 3) := by decide +kernel
theorem dX2_slopeAt_33 : decode cX2_slopeAt 33 = .ok (.goto (-26), 3) := by decide +kernel
theorem dX2_slopeAt_36 : decode cX2_slopeAt 36 = .ok (.iload_n 2, 1) := by decide +kernel
theorem dX2_slopeAt_37 : decode cX2_slopeAt 37 = .ok (.ireturn, 1) := by decide +kernel
theorem dX2_turned_0 : decode cX2_turned 0 = .ok (.iconst 2, 1) := by decide +kernel
theorem dX2_turned_1 : decode cX2_turned 1 = .ok (.newarray .int, 2) := by decide +kernel
theorem dX2_turned_3 : decode cX2_turned 3 = .ok (.dup, 1) := by decide +kernel
theorem dX2_turned_4 : decode cX2_turned 4 = .ok (.iconst 0, 1) := by decide +kernel
theorem dX2_turned_5 : decode cX2_turned 5 = .ok (.iload_n 2, 1) := by decide +kernel
theorem dX2_turned_6 : decode cX2_turned 6 = .ok (.iastore, 1) := by decide +kernel
theorem dX2_turned_7 : decode cX2_turned 7 = .ok (.dup, 1) := by decide +kernel
theorem dX2_turned_8 : decode cX2_turned 8 = .ok (.iconst 1, 1) := by decide +kernel
theorem dX2_turned_9 : decode cX2_turned 9 = .ok (.iload_n 1, 1) := by decide +kernel
theorem dX2_turned_10 : decode cX2_turned 10 = .ok (.iastore, 1) := by decide +kernel
theorem dX2_turned_11 : decode cX2_turned 11 = .ok (.astore_n 3, 1) := by decide +kernel
theorem dX2_turned_12 : decode cX2_turned 12 = .ok (.iconst 5, 1) := by decide +kernel
theorem dX2_turned_13 : decode cX2_turned 13 = .ok (.newarray .int, 2) := by decide +kernel
theorem dX2_turned_15 : decode cX2_turned 15 = .ok (.astore 4, 2) := by decide +kernel
theorem dX2_turned_17 : decode cX2_turned 17 = .ok (.aload_n 0, 1) := by decide +kernel
theorem dX2_turned_18 : decode cX2_turned 18 = .ok (.aload_n 3, 1) := by decide +kernel
theorem dX2_turned_19 : decode cX2_turned 19 = .ok (.iconst 1, 1) := by decide +kernel
theorem dX2_turned_20 : decode cX2_turned 20 = .ok (.aload 4, 2) := by decide +kernel
theorem dX2_turned_22 : decode cX2_turned 22 = .ok (.invokevirtual 33, 3) := by decide +kernel
theorem dX2_turned_25 : decode cX2_turned 25 = .ok (.aload 4, 2) := by decide +kernel
theorem dX2_turned_27 : decode cX2_turned 27 = .ok (.iconst 0, 1) := by decide +kernel
theorem dX2_turned_28 : decode cX2_turned 28 = .ok (.aload 4, 2) := by decide +kernel
theorem dX2_turned_30 : decode cX2_turned 30 = .ok (.iconst 0, 1) := by decide +kernel
theorem dX2_turned_31 : decode cX2_turned 31 = .ok (.iaload, 1) := by decide +kernel
theorem dX2_turned_32 : decode cX2_turned 32 = .ok (.iload_n 2, 1) := by decide +kernel
theorem dX2_turned_33 : decode cX2_turned 33 = .ok (.isub, 1) := by decide +kernel
theorem dX2_turned_34 : decode cX2_turned 34 = .ok (.aload_n 0, 1) := by decide +kernel
theorem dX2_turned_35 : decode cX2_turned 35 = .ok (.getfield 9, 3) := by decide +kernel
theorem dX2_turned_38 : decode cX2_turned 38 = .ok (.invokestatic 37, 3) := by decide +kernel
theorem dX2_turned_41 : decode cX2_turned 41 = .ok (.iastore, 1) := by decide +kernel
theorem dX2_turned_42 : decode cX2_turned 42 = .ok (.iload_n 1, 1) := by decide +kernel
theorem dX2_turned_43 : decode cX2_turned 43 = .ok (.aload_n 0, 1) := by decide +kernel
theorem dX2_turned_44 : decode cX2_turned 44 = .ok (.getfield 9, 3) := by decide +kernel
theorem dX2_turned_47 : decode cX2_turned 47 = .ok (.invokestatic 43, 3) := by decide +kernel
theorem dX2_turned_50 : decode cX2_turned 50 = .ok (.istore 5, 2) := by decide +kernel
theorem dX2_turned_52 : decode cX2_turned 52 = .ok (.iconst 0, 1) := by decide +kernel
theorem dX2_turned_53 : decode cX2_turned 53 = .ok (.istore 6, 2) := by decide +kernel
theorem dX2_turned_55 : decode cX2_turned 55 = .ok (.iload 6, 2) := by decide +kernel
theorem dX2_turned_57 : decode cX2_turned 57 = .ok (.aload 4, 2) := by decide +kernel
theorem dX2_turned_59 : decode cX2_turned 59 = .ok (.arraylength, 1) := by decide +kernel
theorem dX2_turned_60 : decode cX2_turned 60 = .ok (.if_icmp .ge 27, 3) := by decide +kernel
theorem dX2_turned_63 : decode cX2_turned 63 = .ok (.aload 4, 2) := by decide +kernel
theorem dX2_turned_65 : decode cX2_turned 65 = .ok (.iload 6, 2) := by decide +kernel
theorem dX2_turned_67 : decode cX2_turned 67 = .ok (.aload 4, 2) := by decide +kernel
theorem dX2_turned_69 : decode cX2_turned 69 = .ok (.iload 6, 2) := by decide +kernel
theorem dX2_turned_71 : decode cX2_turned 71 = .ok (.iaload, 1) := by decide +kernel
theorem dX2_turned_72 : decode cX2_turned 72 = .ok (.iload 5, 2) := by decide +kernel
theorem dX2_turned_74 : decode cX2_turned 74 = .ok (.imul, 1) := by decide +kernel
theorem dX2_turned_75 : decode cX2_turned 75 = .ok (.aload_n 0, 1) := by decide +kernel
theorem dX2_turned_76 : decode cX2_turned 76 = .ok (.getfield 9, 3) := by decide +kernel
theorem dX2_turned_79 : decode cX2_turned 79 = .ok (.irem, 1) := by decide +kernel
theorem dX2_turned_80 : decode cX2_turned 80 = .ok (.iastore, 1) := by decide +kernel
theorem dX2_turned_81 : decode cX2_turned 81 = .ok (.iinc 6 1, 3) := by decide +kernel
theorem dX2_turned_84 : decode cX2_turned 84 = .ok (.goto (-29), 3) := by decide +kernel
theorem dX2_turned_87 : decode cX2_turned 87 = .ok (.aload 4, 2) := by decide +kernel
theorem dX2_turned_89 : decode cX2_turned 89 = .ok (.areturn, 1) := by decide +kernel
theorem dX2_putOver_0 : decode cX2_putOver 0 = .ok (.aload_n 3, 1) := by decide +kernel
theorem dX2_putOver_1 : decode cX2_putOver 1 = .ok (.iconst 0, 1) := by decide +kernel
theorem dX2_putOver_2 : decode cX2_putOver 2 = .ok (.invokestatic 46, 3) := by decide +kernel
theorem dX2_putOver_5 : decode cX2_putOver 5 = .ok (.aload_n 3, 1) := by decide +kernel
theorem dX2_putOver_6 : decode cX2_putOver 6 = .ok (.iconst 0, 1) := by decide +kernel
theorem dX2_putOver_7 : decode cX2_putOver 7 = .ok (.aload_n 0, 1) := by decide +kernel
theorem dX2_putOver_8 : decode cX2_putOver 8 = .ok (.getfield 15, 3) := by decide +kernel
theorem dX2_putOver_11 : decode cX2_putOver 11 = .ok (.aload_n 0, 1) := by decide +kernel
theorem dX2_putOver_12 : decode cX2_putOver 12 = .ok (.getfield 23, 3) := by decide +kernel
theorem dX2_putOver_15 : decode cX2_putOver 15 = .ok (.iaload, 1) := by decide +kernel
theorem dX2_putOver_16 : decode cX2_putOver 16 = .ok (.iastore, 1) := by decide +kernel
theorem dX2_putOver_17 : decode cX2_putOver 17 = .ok (.iconst 0, 1) := by decide +kernel
theorem dX2_putOver_18 : decode cX2_putOver 18 = .ok (.istore 4, 2) := by decide +kernel
theorem dX2_putOver_20 : decode cX2_putOver 20 = .ok (.aload_n 0, 1) := by decide +kernel
theorem dX2_putOver_21 : decode cX2_putOver 21 = .ok (.getfield 23, 3) := by decide +kernel
theorem dX2_putOver_24 : decode cX2_putOver 24 = .ok (.iconst 1, 1) := by decide +kernel
theorem dX2_putOver_25 : decode cX2_putOver 25 = .ok (.isub, 1) := by decide +kernel
theorem dX2_putOver_26 : decode cX2_putOver 26 = .ok (.istore 5, 2) := by decide +kernel
theorem dX2_putOver_28 : decode cX2_putOver 28 = .ok (.iload 5, 2) := by decide +kernel
theorem dX2_putOver_30 : decode cX2_putOver 30 = .ok (.ifCond .lt 46, 3) := by decide +kernel
theorem dX2_putOver_33 : decode cX2_putOver 33 = .ok (.aload_n 3, 1) := by decide +kernel
theorem dX2_putOver_34 : decode cX2_putOver 34 = .ok (.iload 4, 2) := by decide +kernel
theorem dX2_putOver_36 : decode cX2_putOver 36 = .ok (.aload_n 1, 1) := by decide +kernel
theorem dX2_putOver_37 : decode cX2_putOver 37 = .ok (.iload_n 2, 1) := by decide +kernel
theorem dX2_putOver_38 : decode cX2_putOver 38 = .ok (.aload_n 0, 1) := by decide +kernel
theorem dX2_putOver_39 : decode cX2_putOver 39 = .ok (.getfield 9, 3) := by decide +kernel
theorem dX2_putOver_42 : decode cX2_putOver 42 = .ok (.invokestatic 52, 3) := by decide +kernel
theorem dX2_putOver_45 : decode cX2_putOver 45 = .ok (.iload 4, 2) := by decide +kernel
theorem dX2_putOver_47 : decode cX2_putOver 47 = .ok (.iload_n 2, 1) := by decide +kernel
theorem dX2_putOver_48 : decode cX2_putOver 48 = .ok (.iadd, 1) := by decide +kernel
theorem dX2_putOver_49 : decode cX2_putOver 49 = .ok (.istore 4, 2) := by decide +kernel
theorem dX2_putOver_51 : decode cX2_putOver 51 = .ok (.aload_n 3, 1) := by decide +kernel
theorem dX2_putOver_52 : decode cX2_putOver 52 = .ok (.iconst 0, 1) := by decide +kernel
theorem dX2_putOver_53 : decode cX2_putOver 53 = .ok (.aload_n 3, 1) := by decide +kernel
theorem dX2_putOver_54 : decode cX2_putOver 54 = .ok (.iconst 0, 1) := by decide +kernel
theorem dX2_putOver_55 : decode cX2_putOver 55 = .ok (.iaload, 1) := by decide +kernel
theorem dX2_putOver_56 : decode cX2_putOver 56 = .ok (.aload_n 0, 1) := by decide +kernel
theorem dX2_putOver_57 : decode cX2_putOver 57 = .ok (.getfield 15, 3) := by decide +kernel
theorem dX2_putOver_60 : decode cX2_putOver 60 = .ok (.iload 5, 2) := by decide +kernel
theorem dX2_putOver_62 : decode cX2_putOver 62 = .ok (.iaload, 1) := by decide +kernel
theorem dX2_putOver_63 : decode cX2_putOver 63 = .ok (.iadd, 1) := by decide +kernel
theorem dX2_putOver_64 : decode cX2_putOver 64 = .ok (.aload_n 0, 1) := by decide +kernel
theorem dX2_putOver_65 : decode cX2_putOver 65 = .ok (.getfield 9, 3) := by decide +kernel
theorem dX2_putOver_68 : decode cX2_putOver 68 = .ok (.irem, 1) := by decide +kernel
theorem dX2_putOver_69 : decode cX2_putOver 69 = .ok (.iastore, 1) := by decide +kernel
theorem dX2_putOver_70 : decode cX2_putOver 70 = .ok (.iinc 5 (-1), 3) := by decide +kernel
theorem dX2_putOver_73 : decode cX2_putOver 73 = .ok (.goto (-45), 3) := by decide +kernel
theorem dX2_putOver_76 : decode cX2_putOver 76 = .ok (.return_, 1) := by decide +kernel
theorem dX2_multiply_0 : decode cX2_multiply 0 = .ok (.iload_n 1, 1) := by decide +kernel
theorem dX2_multiply_1 : decode cX2_multiply 1 = .ok (.iload_n 3, 1) := by decide +kernel
theorem dX2_multiply_2 : decode cX2_multiply 2 = .ok (.iadd, 1) := by decide +kernel
theorem dX2_multiply_3 : decode cX2_multiply 3 = .ok (.aload_n 0, 1) := by decide +kernel
theorem dX2_multiply_4 : decode cX2_multiply 4 = .ok (.arraylength, 1) := by decide +kernel
theorem dX2_multiply_5 : decode cX2_multiply 5 = .ok (.iconst 1, 1) := by decide +kernel
theorem dX2_multiply_6 : decode cX2_multiply 6 = .ok (.isub, 1) := by decide +kernel
theorem dX2_multiply_7 : decode cX2_multiply 7 = .ok (.invokestatic 56, 3) := by decide +kernel
theorem dX2_multiply_10 : decode cX2_multiply 10 = .ok (.istore 5, 2) := by decide +kernel
theorem dX2_multiply_12 : decode cX2_multiply 12 = .ok (.iload 5, 2) := by decide +kernel
theorem dX2_multiply_14 : decode cX2_multiply 14 = .ok (.ifCond .lt 65, 3) := by decide +kernel
theorem dX2_multiply_17 : decode cX2_multiply 17 = .ok (.iconst 0, 1) := by decide +kernel
theorem dX2_multiply_18 : decode cX2_multiply 18 = .ok (.istore 6, 2) := by decide +kernel
theorem dX2_multiply_20 : decode cX2_multiply 20 = .ok (.iconst 0, 1) := by decide +kernel
theorem dX2_multiply_21 : decode cX2_multiply 21 = .ok (.iload 5, 2) := by decide +kernel
theorem dX2_multiply_23 : decode cX2_multiply 23 = .ok (.iload_n 1, 1) := by decide +kernel
theorem dX2_multiply_24 : decode cX2_multiply 24 = .ok (.isub, 1) := by decide +kernel
theorem dX2_multiply_25 : decode cX2_multiply 25 = .ok (.invokestatic 59, 3) := by decide +kernel
theorem dX2_multiply_28 : decode cX2_multiply 28 = .ok (.istore 7, 2) := by decide +kernel
theorem dX2_multiply_30 : decode cX2_multiply 30 = .ok (.iload 7, 2) := by decide +kernel
theorem dX2_multiply_32 : decode cX2_multiply 32 = .ok (.iload 5, 2) := by decide +kernel
theorem dX2_multiply_34 : decode cX2_multiply 34 = .ok (.iload_n 3, 1) := by decide +kernel
theorem dX2_multiply_35 : decode cX2_multiply 35 = .ok (.invokestatic 56, 3) := by decide +kernel
theorem dX2_multiply_38 : decode cX2_multiply 38 = .ok (.if_icmp .gt 26, 3) := by decide +kernel
theorem dX2_multiply_41 : decode cX2_multiply 41 = .ok (.iload 6, 2) := by decide +kernel
theorem dX2_multiply_43 : decode cX2_multiply 43 = .ok (.aload_n 0, 1) := by decide +kernel
theorem dX2_multiply_44 : decode cX2_multiply 44 = .ok (.iload 5, 2) := by decide +kernel
theorem dX2_multiply_46 : decode cX2_multiply 46 = .ok (.iload 7, 2) := by decide +kernel
theorem dX2_multiply_48 : decode cX2_multiply 48 = .ok (.isub, 1) := by decide +kernel
theorem dX2_multiply_49 : decode cX2_multiply 49 = .ok (.iaload, 1) := by decide +kernel
theorem dX2_multiply_50 : decode cX2_multiply 50 = .ok (.aload_n 2, 1) := by decide +kernel
theorem dX2_multiply_51 : decode cX2_multiply 51 = .ok (.iload 7, 2) := by decide +kernel
theorem dX2_multiply_53 : decode cX2_multiply 53 = .ok (.iaload, 1) := by decide +kernel
theorem dX2_multiply_54 : decode cX2_multiply 54 = .ok (.imul, 1) := by decide +kernel
theorem dX2_multiply_55 : decode cX2_multiply 55 = .ok (.iadd, 1) := by decide +kernel
theorem dX2_multiply_56 : decode cX2_multiply 56 = .ok (.istore 6, 2) := by decide +kernel
theorem dX2_multiply_58 : decode cX2_multiply 58 = .ok (.iinc 7 1, 3) := by decide +kernel
theorem dX2_multiply_61 : decode cX2_multiply 61 = .ok (.goto (-31), 3) := by decide +kernel
theorem dX2_multiply_64 : decode cX2_multiply 64 = .ok (.aload_n 0, 1) := by decide +kernel
theorem dX2_multiply_65 : decode cX2_multiply 65 = .ok (.iload 5, 2) := by decide +kernel
theorem dX2_multiply_67 : decode cX2_multiply 67 = .ok (.iload 6, 2) := by decide +kernel
theorem dX2_multiply_69 : decode cX2_multiply 69 = .ok (.iload 4, 2) := by decide +kernel
theorem dX2_multiply_71 : decode cX2_multiply 71 = .ok (.irem, 1) := by decide +kernel
theorem dX2_multiply_72 : decode cX2_multiply 72 = .ok (.iastore, 1) := by decide +kernel
theorem dX2_multiply_73 : decode cX2_multiply 73 = .ok (.iinc 5 (-1), 3) := by decide +kernel
theorem dX2_multiply_76 : decode cX2_multiply 76 = .ok (.goto (-64), 3) := by decide +kernel
theorem dX2_multiply_79 : decode cX2_multiply 79 = .ok (.return_, 1) := by decide +kernel
theorem dX3_init_0 : decode cX3_init 0 = .ok (.aload_n 0, 1) := by decide +kernel
theorem dX3_init_1 : decode cX3_init 1 = .ok (.invokespecial 3, 3) := by decide +kernel
theorem dX3_init_4 : decode cX3_init 4 = .ok (.aload_n 0, 1) := by decide +kernel
theorem dX3_init_5 : decode cX3_init 5 = .ok (.iload_n 1, 1) := by decide +kernel
theorem dX3_init_6 : decode cX3_init 6 = .ok (.putfield 9, 3) := by decide +kernel
theorem dX3_init_9 : decode cX3_init 9 = .ok (.aload_n 0, 1) := by decide +kernel
theorem dX3_init_10 : decode cX3_init 10 = .ok (.new 15, 3) := by decide +kernel
theorem dX3_init_13 : decode cX3_init 13 = .ok (.dup, 1) := by decide +kernel
theorem dX3_init_14 : decode cX3_init 14 = .ok (.iload_n 1, 1) := by decide +kernel
theorem dX3_init_15 : decode cX3_init 15 = .ok (.invokespecial 17, 3) := by decide +kernel
theorem dX3_init_18 : decode cX3_init 18 = .ok (.putfield 20, 3) := by decide +kernel
theorem dX3_init_21 : decode cX3_init 21 = .ok (.aload_n 0, 1) := by decide +kernel
theorem dX3_init_22 : decode cX3_init 22 = .ok (.iload_n 1, 1) := by decide +kernel
theorem dX3_init_23 : decode cX3_init 23 = .ok (.newarray .int, 2) := by decide +kernel
theorem dX3_init_25 : decode cX3_init 25 = .ok (.putfield 24, 3) := by decide +kernel
theorem dX3_init_28 : decode cX3_init 28 = .ok (.aload_n 0, 1) := by decide +kernel
theorem dX3_init_29 : decode cX3_init 29 = .ok (.iload_n 1, 1) := by decide +kernel
theorem dX3_init_30 : decode cX3_init 30 = .ok (.newarray .int, 2) := by decide +kernel
theorem dX3_init_32 : decode cX3_init 32 = .ok (.putfield 28, 3) := by decide +kernel
theorem dX3_init_35 : decode cX3_init 35 = .ok (.aload_n 0, 1) := by decide +kernel
theorem dX3_init_36 : decode cX3_init 36 = .ok (.iload_n 1, 1) := by decide +kernel
theorem dX3_init_37 : decode cX3_init 37 = .ok (.newarray .int, 2) := by decide +kernel
theorem dX3_init_39 : decode cX3_init 39 = .ok (.putfield 31, 3) := by decide +kernel
theorem dX3_init_42 : decode cX3_init 42 = .ok (.aload_n 0, 1) := by decide +kernel
theorem dX3_init_43 : decode cX3_init 43 = .ok (.iload_n 1, 1) := by decide +kernel
theorem dX3_init_44 : decode cX3_init 44 = .ok (.newarray .int, 2) := by decide +kernel
theorem dX3_init_46 : decode cX3_init 46 = .ok (.putfield 34, 3) := by decide +kernel
theorem dX3_init_49 : decode cX3_init 49 = .ok (.aload_n 0, 1) := by decide +kernel
theorem dX3_init_50 : decode cX3_init 50 = .ok (.iload_n 1, 1) := by decide +kernel
theorem dX3_init_51 : decode cX3_init 51 = .ok (.newarray .int, 2) := by decide +kernel
theorem dX3_init_53 : decode cX3_init 53 = .ok (.putfield 37, 3) := by decide +kernel
theorem dX3_init_56 : decode cX3_init 56 = .ok (.aload_n 0, 1) := by decide +kernel
theorem dX3_init_57 : decode cX3_init 57 = .ok (.iload_n 1, 1) := by decide +kernel
theorem dX3_init_58 : decode cX3_init 58 = .ok (.newarray .int, 2) := by decide +kernel
theorem dX3_init_60 : decode cX3_init 60 = .ok (.putfield 40, 3) := by decide +kernel
theorem dX3_init_63 : decode cX3_init 63 = .ok (.aload_n 0, 1) := by decide +kernel
theorem dX3_init_64 : decode cX3_init 64 = .ok (.iload_n 1, 1) := by decide +kernel
theorem dX3_init_65 : decode cX3_init 65 = .ok (.newarray .int, 2) := by decide +kernel
theorem dX3_init_67 : decode cX3_init 67 = .ok (.putfield 43, 3) := by decide +kernel
theorem dX3_init_70 : decode cX3_init 70 = .ok (.aload_n 0, 1) := by decide +kernel
theorem dX3_init_71 : decode cX3_init 71 = .ok (.iload_n 1, 1) := by decide +kernel
theorem dX3_init_72 : decode cX3_init 72 = .ok (.iconst 1, 1) := by decide +kernel
theorem dX3_init_73 : decode cX3_init 73 = .ok (.iadd, 1) := by decide +kernel
theorem dX3_init_74 : decode cX3_init 74 = .ok (.newarray .int, 2) := by decide +kernel
theorem dX3_init_76 : decode cX3_init 76 = .ok (.putfield 46, 3) := by decide +kernel
theorem dX3_init_79 : decode cX3_init 79 = .ok (.aload_n 0, 1) := by decide +kernel
theorem dX3_init_80 : decode cX3_init 80 = .ok (.iconst 0, 1) := by decide +kernel
theorem dX3_init_81 : decode cX3_init 81 = .ok (.putfield 49, 3) := by decide +kernel
theorem dX3_init_84 : decode cX3_init 84 = .ok (.aload_n 0, 1) := by decide +kernel
theorem dX3_init_85 : decode cX3_init 85 = .ok (.aconst_null, 1) := by decide +kernel
theorem dX3_init_86 : decode cX3_init 86 = .ok (.putfield 52, 3) := by decide +kernel
theorem dX3_init_89 : decode cX3_init 89 = .ok (.return_, 1) := by decide +kernel
theorem dX3_survey_0 : decode cX3_survey 0 = .ok (.aload_n 1, 1) := by decide +kernel
theorem dX3_survey_1 : decode cX3_survey 1 = .ok (.aload_n 0, 1) := by decide +kernel
theorem dX3_survey_2 : decode cX3_survey 2 = .ok (.getfield 52, 3) := by decide +kernel
theorem dX3_survey_5 : decode cX3_survey 5 = .ok (.if_acmp .ne 4, 3) := by decide +kernel
theorem dX3_survey_8 : decode cX3_survey 8 = .ok (.return_, 1) := by decide +kernel
theorem dX3_survey_9 : decode cX3_survey 9 = .ok (.aload_n 0, 1) := by decide +kernel
theorem dX3_survey_10 : decode cX3_survey 10 = .ok (.aload_n 1, 1) := by decide +kernel
theorem dX3_survey_11 : decode cX3_survey 11 = .ok (.putfield 52, 3) := by decide +kernel
theorem dX3_survey_14 : decode cX3_survey 14 = .ok (.iconst 0, 1) := by decide +kernel
theorem dX3_survey_15 : decode cX3_survey 15 = .ok (.istore_n 2, 1) := by decide +kernel
theorem dX3_survey_16 : decode cX3_survey 16 = .ok (.iload_n 2, 1) := by decide +kernel
theorem dX3_survey_17 : decode cX3_survey 17 = .ok (.aload_n 0, 1) := by decide +kernel
theorem dX3_survey_18 : decode cX3_survey 18 = .ok (.getfield 9, 3) := by decide +kernel
theorem dX3_survey_21 : decode cX3_survey 21 = .ok (.if_icmp .ge 23, 3) := by decide +kernel
theorem dX3_survey_24 : decode cX3_survey 24 = .ok (.aload_n 0, 1) := by decide +kernel
theorem dX3_survey_25 : decode cX3_survey 25 = .ok (.getfield 20, 3) := by decide +kernel
theorem dX3_survey_28 : decode cX3_survey 28 = .ok (.getfield 56, 3) := by decide +kernel
theorem dX3_survey_31 : decode cX3_survey 31 = .ok (.iload_n 2, 1) := by decide +kernel
theorem dX3_survey_32 : decode cX3_survey 32 = .ok (.aload_n 1, 1) := by decide +kernel
theorem dX3_survey_33 : decode cX3_survey 33 = .ok (.iload_n 2, 1) := by decide +kernel
theorem dX3_survey_34 : decode cX3_survey 34 = .ok (.invokevirtual 59, 3) := by decide +kernel
theorem dX3_survey_37 : decode cX3_survey 37 = .ok (.iastore, 1) := by decide +kernel
theorem dX3_survey_38 : decode cX3_survey 38 = .ok (.iinc 2 1, 3) := by decide +kernel
theorem dX3_survey_41 : decode cX3_survey 41 = .ok (.goto (-25), 3) := by decide +kernel
theorem dX3_survey_44 : decode cX3_survey 44 = .ok (.aload_n 0, 1) := by decide +kernel
theorem dX3_survey_45 : decode cX3_survey 45 = .ok (.invokevirtual 65, 3) := by decide +kernel
theorem dX3_survey_48 : decode cX3_survey 48 = .ok (.aload_n 0, 1) := by decide +kernel
theorem dX3_survey_49 : decode cX3_survey 49 = .ok (.getfield 20, 3) := by decide +kernel
theorem dX3_survey_52 : decode cX3_survey 52 = .ok (.invokevirtual 68, 3) := by decide +kernel
theorem dX3_survey_55 : decode cX3_survey 55 = .ok (.aload_n 0, 1) := by decide +kernel
theorem dX3_survey_56 : decode cX3_survey 56 = .ok (.aload_n 1, 1) := by decide +kernel
theorem dX3_survey_57 : decode cX3_survey 57 = .ok (.invokevirtual 71, 3) := by decide +kernel
theorem dX3_survey_60 : decode cX3_survey 60 = .ok (.aload_n 0, 1) := by decide +kernel
theorem dX3_survey_61 : decode cX3_survey 61 = .ok (.invokevirtual 75, 3) := by decide +kernel
theorem dX3_survey_64 : decode cX3_survey 64 = .ok (.return_, 1) := by decide +kernel
theorem dX3_countComers_0 : decode cX3_countComers 0 = .ok (.aload_n 0, 1) := by decide +kernel
theorem dX3_countComers_1 : decode cX3_countComers 1 = .ok (.getfield 24, 3) := by decide +kernel
theorem dX3_countComers_4 : decode cX3_countComers 4 = .ok (.iconst 0, 1) := by decide +kernel
theorem dX3_countComers_5 : decode cX3_countComers 5 = .ok (.invokestatic 78, 3) := by decide +kernel
theorem dX3_countComers_8 : decode cX3_countComers 8 = .ok (.aload_n 0, 1) := by decide +kernel
theorem dX3_countComers_9 : decode cX3_countComers 9 = .ok (.getfield 20, 3) := by decide +kernel
theorem dX3_countComers_12 : decode cX3_countComers 12 = .ok (.getfield 56, 3) := by decide +kernel
theorem dX3_countComers_15 : decode cX3_countComers 15 = .ok (.astore_n 1, 1) := by decide +kernel
theorem dX3_countComers_16 : decode cX3_countComers 16 = .ok (.aload_n 1, 1) := by decide +kernel
theorem dX3_countComers_17 : decode cX3_countComers 17 = .ok (.arraylength, 1) := by decide +kernel
theorem dX3_countComers_18 : decode cX3_countComers 18 = .ok (.istore_n 2, 1) := by decide +kernel
theorem dX3_countComers_19 : decode cX3_countComers 19 = .ok (.iconst 0, 1) := by decide +kernel
theorem dX3_countComers_20 : decode cX3_countComers 20 = .ok (.istore_n 3, 1) := by decide +kernel
theorem dX3_countComers_21 : decode cX3_countComers 21 = .ok (.iload_n 3, 1) := by decide +kernel
theorem dX3_countComers_22 : decode cX3_countComers 22 = .ok (.iload_n 2, 1) := by decide +kernel
theorem dX3_countComers_23 : decode cX3_countComers 23 = .ok (.if_icmp .ge 37, 3) := by decide +kernel
theorem dX3_countComers_26 : decode cX3_countComers 26 = .ok (.aload_n 1, 1) := by decide +kernel
theorem dX3_countComers_27 : decode cX3_countComers 27 = .ok (.iload_n 3, 1) := by decide +kernel
theorem dX3_countComers_28 : decode cX3_countComers 28 = .ok (.iaload, 1) := by decide +kernel
theorem dX3_countComers_29 : decode cX3_countComers 29 = .ok (.istore 4, 2) := by decide +kernel
theorem dX3_countComers_31 : decode cX3_countComers 31 = .ok (.aload_n 0, 1) := by decide +kernel
theorem dX3_countComers_32 : decode cX3_countComers 32 = .ok (.getfield 20, 3) := by decide +kernel
theorem dX3_countComers_35 : decode cX3_countComers 35 = .ok (.iload 4, 2) := by decide +kernel
theorem dX3_countComers_37 : decode cX3_countComers 37 = .ok (.invokevirtual 84, 3) := by decide +kernel
theorem dX3_countComers_40 : decode cX3_countComers 40 = .ok (.ifCond .eq 14, 3) := by decide +kernel
theorem dX3_countComers_43 : decode cX3_countComers 43 = .ok (.aload_n 0, 1) := by decide +kernel
theorem dX3_countComers_44 : decode cX3_countComers 44 = .ok (.getfield 24, 3) := by decide +kernel
theorem dX3_countComers_47 : decode cX3_countComers 47 = .ok (.iload 4, 2) := by decide +kernel
theorem dX3_countComers_49 : decode cX3_countComers 49 = .ok (.dup2, 1) := by decide +kernel
theorem dX3_countComers_50 : decode cX3_countComers 50 = .ok (.iaload, 1) := by decide +kernel
theorem dX3_countComers_51 : decode cX3_countComers 51 = .ok (.iconst 1, 1) := by decide +kernel
theorem dX3_countComers_52 : decode cX3_countComers 52 = .ok (.iadd, 1) := by decide +kernel
theorem dX3_countComers_53 : decode cX3_countComers 53 = .ok (.iastore, 1) := by decide +kernel
theorem dX3_countComers_54 : decode cX3_countComers 54 = .ok (.iinc 3 1, 3) := by decide +kernel
theorem dX3_countComers_57 : decode cX3_countComers 57 = .ok (.goto (-36), 3) := by decide +kernel
theorem dX3_countComers_60 : decode cX3_countComers 60 = .ok (.return_, 1) := by decide +kernel
theorem dX3_numberRings_0 : decode cX3_numberRings 0 = .ok (.aload_n 0, 1) := by decide +kernel
theorem dX3_numberRings_1 : decode cX3_numberRings 1 = .ok (.iconst 0, 1) := by decide +kernel
theorem dX3_numberRings_2 : decode cX3_numberRings 2 = .ok (.putfield 49, 3) := by decide +kernel
theorem dX3_numberRings_5 : decode cX3_numberRings 5 = .ok (.aload_n 0, 1) := by decide +kernel
theorem dX3_numberRings_6 : decode cX3_numberRings 6 = .ok (.getfield 28, 3) := by decide +kernel
theorem dX3_numberRings_9 : decode cX3_numberRings 9 = .ok (.ldc 88, 2) := by decide +kernel
theorem dX3_numberRings_11 : decode cX3_numberRings 11 = .ok (.invokestatic 78, 3) := by decide +kernel
theorem dX3_numberRings_14 : decode cX3_numberRings 14 = .ok (.iconst 0, 1) := by decide +kernel
theorem dX3_numberRings_15 : decode cX3_numberRings 15 = .ok (.istore_n 2, 1) := by decide +kernel
theorem dX3_numberRings_16 : decode cX3_numberRings 16 = .ok (.iload_n 2, 1) := by decide +kernel
theorem dX3_numberRings_17 : decode cX3_numberRings 17 = .ok (.aload_n 0, 1) := by decide +kernel
theorem dX3_numberRings_18 : decode cX3_numberRings 18 = .ok (.getfield 9, 3) := by decide +kernel
theorem dX3_numberRings_21 : decode cX3_numberRings 21 = .ok (.if_icmp .ge 63, 3) := by decide +kernel
theorem dX3_numberRings_24 : decode cX3_numberRings 24 = .ok (.aload_n 0, 1) := by decide +kernel
theorem dX3_numberRings_25 : decode cX3_numberRings 25 = .ok (.getfield 20, 3) := by decide +kernel
theorem dX3_numberRings_28 : decode cX3_numberRings 28 = .ok (.getfield 89, 3) := by decide +kernel
theorem dX3_numberRings_31 : decode cX3_numberRings 31 = .ok (.iload_n 2, 1) := by decide +kernel
theorem dX3_numberRings_32 : decode cX3_numberRings 32 = .ok (.iaload, 1) := by decide +kernel
theorem dX3_numberRings_33 : decode cX3_numberRings 33 = .ok (.ifCond .ne 45, 3) := by decide +kernel
theorem dX3_numberRings_36 : decode cX3_numberRings 36 = .ok (.aload_n 0, 1) := by decide +kernel
theorem dX3_numberRings_37 : decode cX3_numberRings 37 = .ok (.getfield 28, 3) := by decide +kernel
theorem dX3_numberRings_40 : decode cX3_numberRings 40 = .ok (.iload_n 2, 1) := by decide +kernel
theorem dX3_numberRings_41 : decode cX3_numberRings 41 = .ok (.iaload, 1) := by decide +kernel
theorem dX3_numberRings_42 : decode cX3_numberRings 42 = .ok (.ldc 88, 2) := by decide +kernel
theorem dX3_numberRings_44 : decode cX3_numberRings 44 = .ok (.if_icmp .ne 34, 3) := by decide +kernel
theorem dX3_numberRings_47 : decode cX3_numberRings 47 = .ok (.aload_n 0, 1) := by decide +kernel
theorem dX3_numberRings_48 : decode cX3_numberRings 48 = .ok (.getfield 49, 3) := by decide +kernel
theorem dX3_numberRings_51 : decode cX3_numberRings 51 = .ok (.aload_n 0, 1) := by decide +kernel
theorem dX3_numberRings_52 : decode cX3_numberRings 52 = .ok (.getfield 9, 3) := by decide +kernel
theorem dX3_numberRings_55 : decode cX3_numberRings 55 = .ok (.if_icmp .ge 23, 3) := by decide +kernel
theorem dX3_numberRings_58 : decode cX3_numberRings 58 = .ok (.aload_n 0, 1) := by decide +kernel
theorem dX3_numberRings_59 : decode cX3_numberRings 59 = .ok (.aload_n 1, 1) := by decide +kernel
theorem dX3_numberRings_60 : decode cX3_numberRings 60 = .ok (.iload_n 2, 1) := by decide +kernel
theorem dX3_numberRings_61 : decode cX3_numberRings 61 = .ok (.aload_n 0, 1) := by decide +kernel
theorem dX3_numberRings_62 : decode cX3_numberRings 62 = .ok (.getfield 49, 3) := by decide +kernel
theorem dX3_numberRings_65 : decode cX3_numberRings 65 = .ok (.invokevirtual 92, 3) := by decide +kernel
theorem dX3_numberRings_68 : decode cX3_numberRings 68 = .ok (.aload_n 0, 1) := by decide +kernel
theorem dX3_numberRings_69 : decode cX3_numberRings 69 = .ok (.dup, 1) := by decide +kernel
theorem dX3_numberRings_70 : decode cX3_numberRings 70 = .ok (.getfield 49, 3) := by decide +kernel
theorem dX3_numberRings_73 : decode cX3_numberRings 73 = .ok (.iconst 1, 1) := by decide +kernel
theorem dX3_numberRings_74 : decode cX3_numberRings 74 = .ok (.iadd, 1) := by decide +kernel
theorem dX3_numberRings_75 : decode cX3_numberRings 75 = .ok (.putfield 49, 3) := by decide +kernel
theorem dX3_numberRings_78 : decode cX3_numberRings 78 = .ok (.iinc 2 1, 3) := by decide +kernel
theorem dX3_numberRings_81 : decode cX3_numberRings 81 = .ok (.goto (-65), 3) := by decide +kernel
theorem dX3_numberRings_84 : decode cX3_numberRings 84 = .ok (.return_, 1) := by decide +kernel
theorem dX3_goRound_0 : decode cX3_goRound 0 = .ok (.iconst 1, 1) := by decide +kernel
theorem dX3_goRound_1 : decode cX3_goRound 1 = .ok (.istore 4, 2) := by decide +kernel
theorem dX3_goRound_3 : decode cX3_goRound 3 = .ok (.iload_n 2, 1) := by decide +kernel
theorem dX3_goRound_4 : decode cX3_goRound 4 = .ok (.istore 5, 2) := by decide +kernel
theorem dX3_goRound_6 : decode cX3_goRound 6 = .ok (.iconst 0, 1) := by decide +kernel
theorem dX3_goRound_7 : decode cX3_goRound 7 = .ok (.istore 6, 2) := by decide +kernel
theorem dX3_goRound_9 : decode cX3_goRound 9 = .ok (.iload 6, 2) := by decide +kernel
theorem dX3_goRound_11 : decode cX3_goRound 11 = .ok (.aload_n 0, 1) := by decide +kernel
theorem dX3_goRound_12 : decode cX3_goRound 12 = .ok (.getfield 20, 3) := by decide +kernel
theorem dX3_goRound_15 : decode cX3_goRound 15 = .ok (.getfield 96, 3) := by decide +kernel
theorem dX3_goRound_18 : decode cX3_goRound 18 = .ok (.iload_n 2, 1) := by decide +kernel
theorem dX3_goRound_19 : decode cX3_goRound 19 = .ok (.iaload, 1) := by decide +kernel
theorem dX3_goRound_20 : decode cX3_goRound 20 = .ok (.if_icmp .ge 57, 3) := by decide +kernel
theorem dX3_goRound_23 : decode cX3_goRound 23 = .ok (.aload_n 0, 1) := by decide +kernel
theorem dX3_goRound_24 : decode cX3_goRound 24 = .ok (.getfield 20, 3) := by decide +kernel
theorem dX3_goRound_27 : decode cX3_goRound 27 = .ok (.iload 5, 2) := by decide +kernel
theorem dX3_goRound_29 : decode cX3_goRound 29 = .ok (.invokevirtual 84, 3) := by decide +kernel
theorem dX3_goRound_32 : decode cX3_goRound 32 = .ok (.ifCond .eq 45, 3) := by decide +kernel
theorem dX3_goRound_35 : decode cX3_goRound 35 = .ok (.aload_n 0, 1) := by decide +kernel
theorem dX3_goRound_36 : decode cX3_goRound 36 = .ok (.getfield 28, 3) := by decide +kernel
theorem dX3_goRound_39 : decode cX3_goRound 39 = .ok (.iload 5, 2) := by decide +kernel
theorem dX3_goRound_41 : decode cX3_goRound 41 = .ok (.iload_n 3, 1) := by decide +kernel
theorem dX3_goRound_42 : decode cX3_goRound 42 = .ok (.iastore, 1) := by decide +kernel
theorem dX3_goRound_43 : decode cX3_goRound 43 = .ok (.iload 4, 2) := by decide +kernel
theorem dX3_goRound_45 : decode cX3_goRound 45 = .ok (.aload_n 1, 1) := by decide +kernel
theorem dX3_goRound_46 : decode cX3_goRound 46 = .ok (.iload 5, 2) := by decide +kernel
theorem dX3_goRound_48 : decode cX3_goRound 48 = .ok (.invokevirtual 99, 3) := by decide +kernel
theorem dX3_goRound_51 : decode cX3_goRound 51 = .ok (.imul, 1) := by decide +kernel
theorem dX3_goRound_52 : decode cX3_goRound 52 = .ok (.aload_n 0, 1) := by decide +kernel
theorem dX3_goRound_53 : decode cX3_goRound 53 = .ok (.getfield 9, 3) := by decide +kernel
theorem dX3_goRound_56 : decode cX3_goRound 56 = .ok (.irem, 1) := by decide +kernel
theorem dX3_goRound_57 : decode cX3_goRound 57 = .ok (.istore 4, 2) := by decide +kernel
theorem dX3_goRound_59 : decode cX3_goRound 59 = .ok (.aload_n 0, 1) := by decide +kernel
theorem dX3_goRound_60 : decode cX3_goRound 60 = .ok (.getfield 20, 3) := by decide +kernel
theorem dX3_goRound_63 : decode cX3_goRound 63 = .ok (.getfield 56, 3) := by decide +kernel
theorem dX3_goRound_66 : decode cX3_goRound 66 = .ok (.iload 5, 2) := by decide +kernel
theorem dX3_goRound_68 : decode cX3_goRound 68 = .ok (.iaload, 1) := by decide +kernel
theorem dX3_goRound_69 : decode cX3_goRound 69 = .ok (.istore 5, 2) := by decide +kernel
theorem dX3_goRound_71 : decode cX3_goRound 71 = .ok (.iinc 6 1, 3) := by decide +kernel
theorem dX3_goRound_74 : decode cX3_goRound 74 = .ok (.goto (-65), 3) := by decide +kernel
theorem dX3_goRound_77 : decode cX3_goRound 77 = .ok (.aload_n 0, 1) := by decide +kernel
theorem dX3_goRound_78 : decode cX3_goRound 78 = .ok (.getfield 31, 3) := by decide +kernel
theorem dX3_goRound_81 : decode cX3_goRound 81 = .ok (.iload_n 3, 1) := by decide +kernel
theorem dX3_goRound_82 : decode cX3_goRound 82 = .ok (.aload_n 0, 1) := by decide +kernel
theorem dX3_goRound_83 : decode cX3_goRound 83 = .ok (.getfield 20, 3) := by decide +kernel
theorem dX3_goRound_86 : decode cX3_goRound 86 = .ok (.getfield 96, 3) := by decide +kernel
theorem dX3_goRound_89 : decode cX3_goRound 89 = .ok (.iload_n 2, 1) := by decide +kernel
theorem dX3_goRound_90 : decode cX3_goRound 90 = .ok (.iaload, 1) := by decide +kernel
theorem dX3_goRound_91 : decode cX3_goRound 91 = .ok (.iastore, 1) := by decide +kernel
theorem dX3_goRound_92 : decode cX3_goRound 92 = .ok (.aload_n 0, 1) := by decide +kernel
theorem dX3_goRound_93 : decode cX3_goRound 93 = .ok (.getfield 34, 3) := by decide +kernel
theorem dX3_goRound_96 : decode cX3_goRound 96 = .ok (.iload_n 3, 1) := by decide +kernel
theorem dX3_goRound_97 : decode cX3_goRound 97 = .ok (.iload_n 2, 1) := by decide +kernel
theorem dX3_goRound_98 : decode cX3_goRound 98 = .ok (.iastore, 1) := by decide +kernel
theorem dX3_goRound_99 : decode cX3_goRound 99 = .ok (.aload_n 0, 1) := by decide +kernel
theorem dX3_goRound_100 : decode cX3_goRound 100 = .ok (.getfield 37, 3) := by decide +kernel
theorem dX3_goRound_103 : decode cX3_goRound 103 = .ok (.iload_n 3, 1) := by decide +kernel
theorem dX3_goRound_104 : decode cX3_goRound 104 = .ok (.iload 4, 2) := by decide +kernel
theorem dX3_goRound_106 : decode cX3_goRound 106 = .ok (.iastore, 1) := by decide +kernel
theorem dX3_goRound_107 : decode cX3_goRound 107 = .ok (.aload_n 0, 1) := by decide +kernel
theorem dX3_goRound_108 : decode cX3_goRound 108 = .ok (.getfield 40, 3) := by decide +kernel
theorem dX3_goRound_111 : decode cX3_goRound 111 = .ok (.iload_n 3, 1) := by decide +kernel
theorem dX3_goRound_112 : decode cX3_goRound 112 = .ok (.iconst 0, 1) := by decide +kernel
theorem dX3_goRound_113 : decode cX3_goRound 113 = .ok (.iastore, 1) := by decide +kernel
theorem dX3_goRound_114 : decode cX3_goRound 114 = .ok (.return_, 1) := by decide +kernel
theorem dX3_gatherBasins_0 : decode cX3_gatherBasins 0 = .ok (.iconst 0, 1) := by decide +kernel
theorem dX3_gatherBasins_1 : decode cX3_gatherBasins 1 = .ok (.istore_n 1, 1) := by decide +kernel
theorem dX3_gatherBasins_2 : decode cX3_gatherBasins 2 = .ok (.iload_n 1, 1) := by decide +kernel
theorem dX3_gatherBasins_3 : decode cX3_gatherBasins 3 = .ok (.aload_n 0, 1) := by decide +kernel
theorem dX3_gatherBasins_4 : decode cX3_gatherBasins 4 = .ok (.getfield 9, 3) := by decide +kernel
theorem dX3_gatherBasins_7 : decode cX3_gatherBasins 7 = .ok (.if_icmp .ge 71, 3) := by decide +kernel
theorem dX3_gatherBasins_10 : decode cX3_gatherBasins 10 = .ok (.aload_n 0, 1) := by decide +kernel
theorem dX3_gatherBasins_11 : decode cX3_gatherBasins 11 = .ok (.getfield 20, 3) := by decide +kernel
theorem dX3_gatherBasins_14 : decode cX3_gatherBasins 14 = .ok (.getfield 102, 3) := by decide +kernel
theorem dX3_gatherBasins_17 : decode cX3_gatherBasins 17 = .ok (.iload_n 1, 1) := by decide +kernel
theorem dX3_gatherBasins_18 : decode cX3_gatherBasins 18 = .ok (.iaload, 1) := by decide +kernel
theorem dX3_gatherBasins_19 : decode cX3_gatherBasins 19 = .ok (.istore_n 2, 1) := by decide +kernel
theorem dX3_gatherBasins_20 : decode cX3_gatherBasins 20 = .ok (.aload_n 0, 1) := by decide +kernel
theorem dX3_gatherBasins_21 : decode cX3_gatherBasins 21 = .ok (.getfield 20, 3) := by decide +kernel
theorem dX3_gatherBasins_24 : decode cX3_gatherBasins 24 = .ok (.iload_n 2, 1) := by decide +kernel
theorem dX3_gatherBasins_25 : decode cX3_gatherBasins 25 = .ok (.invokevirtual 84, 3) := by decide +kernel
theorem dX3_gatherBasins_28 : decode cX3_gatherBasins 28 = .ok (.ifCond .eq 12, 3) := by decide +kernel
theorem dX3_gatherBasins_31 : decode cX3_gatherBasins 31 = .ok (.aload_n 0, 1) := by decide +kernel
theorem dX3_gatherBasins_32 : decode cX3_gatherBasins 32 = .ok (.getfield 28, 3) := by decide +kernel
theorem dX3_gatherBasins_35 : decode cX3_gatherBasins 35 = .ok (.iload_n 2, 1) := by decide +kernel
theorem dX3_gatherBasins_36 : decode cX3_gatherBasins 36 = .ok (.iaload, 1) := by decide +kernel
theorem dX3_gatherBasins_37 : decode cX3_gatherBasins 37 = .ok (.goto 5, 3) := by decide +kernel
theorem dX3_gatherBasins_40 : decode cX3_gatherBasins 40 = .ok (.ldc 88, 2) := by decide +kernel
theorem dX3_gatherBasins_42 : decode cX3_gatherBasins 42 = .ok (.istore_n 3, 1) := by decide +kernel
theorem dX3_gatherBasins_43 : decode cX3_gatherBasins 43 = .ok (.aload_n 0, 1) := by decide +kernel
theorem dX3_gatherBasins_44 : decode cX3_gatherBasins 44 = .ok (.getfield 28, 3) := by decide +kernel
theorem dX3_gatherBasins_47 : decode cX3_gatherBasins 47 = .ok (.iload_n 1, 1) := by decide +kernel
theorem dX3_gatherBasins_48 : decode cX3_gatherBasins 48 = .ok (.iload_n 3, 1) := by decide +kernel
theorem dX3_gatherBasins_49 : decode cX3_gatherBasins 49 = .ok (.iastore, 1) := by decide +kernel
theorem dX3_gatherBasins_50 : decode cX3_gatherBasins 50 = .ok (.iload_n 3, 1) := by decide +kernel
theorem dX3_gatherBasins_51 : decode cX3_gatherBasins 51 = .ok (.ifCond .lt 21, 3) := by decide +kernel
theorem dX3_gatherBasins_54 : decode cX3_gatherBasins 54 = .ok (.iload_n 3, 1) := by decide +kernel
theorem dX3_gatherBasins_55 : decode cX3_gatherBasins 55 = .ok (.aload_n 0, 1) := by decide +kernel
theorem dX3_gatherBasins_56 : decode cX3_gatherBasins 56 = .ok (.getfield 49, 3) := by decide +kernel
theorem dX3_gatherBasins_59 : decode cX3_gatherBasins 59 = .ok (.if_icmp .ge 13, 3) := by decide +kernel
theorem dX3_gatherBasins_62 : decode cX3_gatherBasins 62 = .ok (.aload_n 0, 1) := by decide +kernel
theorem dX3_gatherBasins_63 : decode cX3_gatherBasins 63 = .ok (.getfield 40, 3) := by decide +kernel
theorem dX3_gatherBasins_66 : decode cX3_gatherBasins 66 = .ok (.iload_n 3, 1) := by decide +kernel
theorem dX3_gatherBasins_67 : decode cX3_gatherBasins 67 = .ok (.dup2, 1) := by decide +kernel
theorem dX3_gatherBasins_68 : decode cX3_gatherBasins 68 = .ok (.iaload, 1) := by decide +kernel
theorem dX3_gatherBasins_69 : decode cX3_gatherBasins 69 = .ok (.iconst 1, 1) := by decide +kernel
theorem dX3_gatherBasins_70 : decode cX3_gatherBasins 70 = .ok (.iadd, 1) := by decide +kernel
theorem dX3_gatherBasins_71 : decode cX3_gatherBasins 71 = .ok (.iastore, 1) := by decide +kernel
theorem dX3_gatherBasins_72 : decode cX3_gatherBasins 72 = .ok (.iinc 1 1, 3) := by decide +kernel
theorem dX3_gatherBasins_75 : decode cX3_gatherBasins 75 = .ok (.goto (-73), 3) := by decide +kernel
theorem dX3_gatherBasins_78 : decode cX3_gatherBasins 78 = .ok (.return_, 1) := by decide +kernel
theorem dX3_ofPoint_0 : decode cX3_ofPoint 0 = .ok (.iload_n 2, 1) := by decide +kernel
theorem dX3_ofPoint_1 : decode cX3_ofPoint 1 = .ok (.tableswitch 54 0 2 #[27, 37, 47], 27) := by decide +kernel
theorem dX3_ofPoint_28 : decode cX3_ofPoint 28 = .ok (.aload_n 0, 1) := by decide +kernel
theorem dX3_ofPoint_29 : decode cX3_ofPoint 29 = .ok (.getfield 20, 3) := by decide +kernel
theorem dX3_ofPoint_32 : decode cX3_ofPoint 32 = .ok (.getfield 89, 3) := by decide +kernel
theorem dX3_ofPoint_35 : decode cX3_ofPoint 35 = .ok (.iload_n 1, 1) := by decide +kernel
theorem dX3_ofPoint_36 : decode cX3_ofPoint 36 = .ok (.iaload, 1) := by decide +kernel
theorem dX3_ofPoint_37 : decode cX3_ofPoint 37 = .ok (.ireturn, 1) := by decide +kernel
theorem dX3_ofPoint_38 : decode cX3_ofPoint 38 = .ok (.aload_n 0, 1) := by decide +kernel
theorem dX3_ofPoint_39 : decode cX3_ofPoint 39 = .ok (.getfield 20, 3) := by decide +kernel
theorem dX3_ofPoint_42 : decode cX3_ofPoint 42 = .ok (.getfield 96, 3) := by decide +kernel
theorem dX3_ofPoint_45 : decode cX3_ofPoint 45 = .ok (.iload_n 1, 1) := by decide +kernel
theorem dX3_ofPoint_46 : decode cX3_ofPoint 46 = .ok (.iaload, 1) := by decide +kernel
theorem dX3_ofPoint_47 : decode cX3_ofPoint 47 = .ok (.ireturn, 1) := by decide +kernel
theorem dX3_ofPoint_48 : decode cX3_ofPoint 48 = .ok (.aload_n 0, 1) := by decide +kernel
theorem dX3_ofPoint_49 : decode cX3_ofPoint 49 = .ok (.getfield 28, 3) := by decide +kernel
theorem dX3_ofPoint_52 : decode cX3_ofPoint 52 = .ok (.iload_n 1, 1) := by decide +kernel
theorem dX3_ofPoint_53 : decode cX3_ofPoint 53 = .ok (.iaload, 1) := by decide +kernel
theorem dX3_ofPoint_54 : decode cX3_ofPoint 54 = .ok (.ireturn, 1) := by decide +kernel
theorem dX3_ofPoint_55 : decode cX3_ofPoint 55 = .ok (.aload_n 0, 1) := by decide +kernel
theorem dX3_ofPoint_56 : decode cX3_ofPoint 56 = .ok (.getfield 24, 3) := by decide +kernel
theorem dX3_ofPoint_59 : decode cX3_ofPoint 59 = .ok (.iload_n 1, 1) := by decide +kernel
theorem dX3_ofPoint_60 : decode cX3_ofPoint 60 = .ok (.iaload, 1) := by decide +kernel
theorem dX3_ofPoint_61 : decode cX3_ofPoint 61 = .ok (.ireturn, 1) := by decide +kernel
theorem dX3_ofRing_0 : decode cX3_ofRing 0 = .ok (.iload_n 1, 1) := by decide +kernel
theorem dX3_ofRing_1 : decode cX3_ofRing 1 = .ok (.ifCond .lt 11, 3) := by decide +kernel
theorem dX3_ofRing_4 : decode cX3_ofRing 4 = .ok (.iload_n 1, 1) := by decide +kernel
theorem dX3_ofRing_5 : decode cX3_ofRing 5 = .ok (.aload_n 0, 1) := by decide +kernel
theorem dX3_ofRing_6 : decode cX3_ofRing 6 = .ok (.getfield 49, 3) := by decide +kernel
theorem dX3_ofRing_9 : decode cX3_ofRing 9 = .ok (.if_icmp .lt 6, 3) := by decide +kernel
theorem dX3_ofRing_12 : decode cX3_ofRing 12 = .ok (.ldc 88, 2) := by decide +kernel
theorem dX3_ofRing_14 : decode cX3_ofRing 14 = .ok (.ireturn, 1) := by decide +kernel
theorem dX3_ofRing_15 : decode cX3_ofRing 15 = .ok (.iload_n 2, 1) := by decide +kernel
theorem dX3_ofRing_16 : decode cX3_ofRing 16 = .ok (.tableswitch 49 0 2 #[28, 35, 42], 28) := by decide +kernel
theorem dX3_ofRing_44 : decode cX3_ofRing 44 = .ok (.aload_n 0, 1) := by decide +kernel
theorem dX3_ofRing_45 : decode cX3_ofRing 45 = .ok (.getfield 31, 3) := by decide +kernel
theorem dX3_ofRing_48 : decode cX3_ofRing 48 = .ok (.iload_n 1, 1) := by decide +kernel
theorem dX3_ofRing_49 : decode cX3_ofRing 49 = .ok (.iaload, 1) := by decide +kernel
theorem dX3_ofRing_50 : decode cX3_ofRing 50 = .ok (.ireturn, 1) := by decide +kernel
theorem dX3_ofRing_51 : decode cX3_ofRing 51 = .ok (.aload_n 0, 1) := by decide +kernel
theorem dX3_ofRing_52 : decode cX3_ofRing 52 = .ok (.getfield 34, 3) := by decide +kernel
theorem dX3_ofRing_55 : decode cX3_ofRing 55 = .ok (.iload_n 1, 1) := by decide +kernel
theorem dX3_ofRing_56 : decode cX3_ofRing 56 = .ok (.iaload, 1) := by decide +kernel
theorem dX3_ofRing_57 : decode cX3_ofRing 57 = .ok (.ireturn, 1) := by decide +kernel
theorem dX3_ofRing_58 : decode cX3_ofRing 58 = .ok (.aload_n 0, 1) := by decide +kernel
theorem dX3_ofRing_59 : decode cX3_ofRing 59 = .ok (.getfield 37, 3) := by decide +kernel
theorem dX3_ofRing_62 : decode cX3_ofRing 62 = .ok (.iload_n 1, 1) := by decide +kernel
theorem dX3_ofRing_63 : decode cX3_ofRing 63 = .ok (.iaload, 1) := by decide +kernel
theorem dX3_ofRing_64 : decode cX3_ofRing 64 = .ok (.ireturn, 1) := by decide +kernel
theorem dX3_ofRing_65 : decode cX3_ofRing 65 = .ok (.aload_n 0, 1) := by decide +kernel
theorem dX3_ofRing_66 : decode cX3_ofRing 66 = .ok (.getfield 40, 3) := by decide +kernel
theorem dX3_ofRing_69 : decode cX3_ofRing 69 = .ok (.iload_n 1, 1) := by decide +kernel
theorem dX3_ofRing_70 : decode cX3_ofRing 70 = .ok (.iaload, 1) := by decide +kernel
theorem dX3_ofRing_71 : decode cX3_ofRing 71 = .ok (.ireturn, 1) := by decide +kernel
theorem dX3_ofAll_0 : decode cX3_ofAll 0 = .ok (.iload_n 1, 1) := by decide +kernel
theorem dX3_ofAll_1 : decode cX3_ofAll 1 = .ok (.tableswitch 60 0 4 #[35, 40, 45, 50, 55], 35) := by decide +kernel
theorem dX3_ofAll_36 : decode cX3_ofAll 36 = .ok (.aload_n 0, 1) := by decide +kernel
theorem dX3_ofAll_37 : decode cX3_ofAll 37 = .ok (.getfield 49, 3) := by decide +kernel
theorem dX3_ofAll_40 : decode cX3_ofAll 40 = .ok (.ireturn, 1) := by decide +kernel
theorem dX3_ofAll_41 : decode cX3_ofAll 41 = .ok (.aload_n 0, 1) := by decide +kernel
theorem dX3_ofAll_42 : decode cX3_ofAll 42 = .ok (.invokevirtual 105, 3) := by decide +kernel
theorem dX3_ofAll_45 : decode cX3_ofAll 45 = .ok (.ireturn, 1) := by decide +kernel
theorem dX3_ofAll_46 : decode cX3_ofAll 46 = .ok (.aload_n 0, 1) := by decide +kernel
theorem dX3_ofAll_47 : decode cX3_ofAll 47 = .ok (.invokevirtual 109, 3) := by decide +kernel
theorem dX3_ofAll_50 : decode cX3_ofAll 50 = .ok (.ireturn, 1) := by decide +kernel
theorem dX3_ofAll_51 : decode cX3_ofAll 51 = .ok (.aload_n 0, 1) := by decide +kernel
theorem dX3_ofAll_52 : decode cX3_ofAll 52 = .ok (.invokevirtual 112, 3) := by decide +kernel
theorem dX3_ofAll_55 : decode cX3_ofAll 55 = .ok (.ireturn, 1) := by decide +kernel
theorem dX3_ofAll_56 : decode cX3_ofAll 56 = .ok (.aload_n 0, 1) := by decide +kernel
theorem dX3_ofAll_57 : decode cX3_ofAll 57 = .ok (.invokevirtual 115, 3) := by decide +kernel
theorem dX3_ofAll_60 : decode cX3_ofAll 60 = .ok (.ireturn, 1) := by decide +kernel
theorem dX3_ofAll_61 : decode cX3_ofAll 61 = .ok (.aload_n 0, 1) := by decide +kernel
theorem dX3_ofAll_62 : decode cX3_ofAll 62 = .ok (.invokevirtual 118, 3) := by decide +kernel
theorem dX3_ofAll_65 : decode cX3_ofAll 65 = .ok (.ireturn, 1) := by decide +kernel
theorem dX3_pointsOnRings_0 : decode cX3_pointsOnRings 0 = .ok (.iconst 0, 1) := by decide +kernel
theorem dX3_pointsOnRings_1 : decode cX3_pointsOnRings 1 = .ok (.istore_n 1, 1) := by decide +kernel
theorem dX3_pointsOnRings_2 : decode cX3_pointsOnRings 2 = .ok (.iconst 0, 1) := by decide +kernel
theorem dX3_pointsOnRings_3 : decode cX3_pointsOnRings 3 = .ok (.istore_n 2, 1) := by decide +kernel
theorem dX3_pointsOnRings_4 : decode cX3_pointsOnRings 4 = .ok (.iload_n 2, 1) := by decide +kernel
theorem dX3_pointsOnRings_5 : decode cX3_pointsOnRings 5 = .ok (.aload_n 0, 1) := by decide +kernel
theorem dX3_pointsOnRings_6 : decode cX3_pointsOnRings 6 = .ok (.getfield 49, 3) := by decide +kernel
theorem dX3_pointsOnRings_9 : decode cX3_pointsOnRings 9 = .ok (.if_icmp .ge 18, 3) := by decide +kernel
theorem dX3_pointsOnRings_12 : decode cX3_pointsOnRings 12 = .ok (.iload_n 1, 1) := by decide +kernel
theorem dX3_pointsOnRings_13 : decode cX3_pointsOnRings 13 = .ok (.aload_n 0, 1) := by decide +kernel
theorem dX3_pointsOnRings_14 : decode cX3_pointsOnRings 14 = .ok (.getfield 31, 3) := by decide +kernel
theorem dX3_pointsOnRings_17 : decode cX3_pointsOnRings 17 = .ok (.iload_n 2, 1) := by decide +kernel
theorem dX3_pointsOnRings_18 : decode cX3_pointsOnRings 18 = .ok (.iaload, 1) := by decide +kernel
theorem dX3_pointsOnRings_19 : decode cX3_pointsOnRings 19 = .ok (.iadd, 1) := by decide +kernel
theorem dX3_pointsOnRings_20 : decode cX3_pointsOnRings 20 = .ok (.istore_n 1, 1) := by decide +kernel
theorem dX3_pointsOnRings_21 : decode cX3_pointsOnRings 21 = .ok (.iinc 2 1, 3) := by decide +kernel
theorem dX3_pointsOnRings_24 : decode cX3_pointsOnRings 24 = .ok (.goto (-20), 3) := by decide +kernel
theorem dX3_pointsOnRings_27 : decode cX3_pointsOnRings 27 = .ok (.iload_n 1, 1) := by decide +kernel
theorem dX3_pointsOnRings_28 : decode cX3_pointsOnRings 28 = .ok (.ireturn, 1) := by decide +kernel
theorem dX3_longestRing_0 : decode cX3_longestRing 0 = .ok (.iconst 0, 1) := by decide +kernel
theorem dX3_longestRing_1 : decode cX3_longestRing 1 = .ok (.istore_n 1, 1) := by decide +kernel
theorem dX3_longestRing_2 : decode cX3_longestRing 2 = .ok (.iconst 0, 1) := by decide +kernel
theorem dX3_longestRing_3 : decode cX3_longestRing 3 = .ok (.istore_n 2, 1) := by decide +kernel
theorem dX3_longestRing_4 : decode cX3_longestRing 4 = .ok (.iload_n 2, 1) := by decide +kernel
theorem dX3_longestRing_5 : decode cX3_longestRing 5 = .ok (.aload_n 0, 1) := by decide +kernel
theorem dX3_longestRing_6 : decode cX3_longestRing 6 = .ok (.getfield 49, 3) := by decide +kernel
theorem dX3_longestRing_9 : decode cX3_longestRing 9 = .ok (.if_icmp .ge 20, 3) := by decide +kernel
theorem dX3_longestRing_12 : decode cX3_longestRing 12 = .ok (.iload_n 1, 1) := by decide +kernel
theorem dX3_longestRing_13 : decode cX3_longestRing 13 = .ok (.aload_n 0, 1) := by decide +kernel
theorem dX3_longestRing_14 : decode cX3_longestRing 14 = .ok (.getfield 31, 3) := by decide +kernel
theorem dX3_longestRing_17 : decode cX3_longestRing 17 = .ok (.iload_n 2, 1) := by decide +kernel
theorem dX3_longestRing_18 : decode cX3_longestRing 18 = .ok (.iaload, 1) := by decide +kernel
theorem dX3_longestRing_19 : decode cX3_longestRing 19 = .ok (.invokestatic 121, 3) := by decide +kernel
theorem dX3_longestRing_22 : decode cX3_longestRing 22 = .ok (.istore_n 1, 1) := by decide +kernel
theorem dX3_longestRing_23 : decode cX3_longestRing 23 = .ok (.iinc 2 1, 3) := by decide +kernel
theorem dX3_longestRing_26 : decode cX3_longestRing 26 = .ok (.goto (-22), 3) := by decide +kernel
theorem dX3_longestRing_29 : decode cX3_longestRing 29 = .ok (.iload_n 1, 1) := by decide +kernel
theorem dX3_longestRing_30 : decode cX3_longestRing 30 = .ok (.ireturn, 1) := by decide +kernel
theorem dX3_longestTail_0 : decode cX3_longestTail 0 = .ok (.iconst 0, 1) := by decide +kernel
theorem dX3_longestTail_1 : decode cX3_longestTail 1 = .ok (.istore_n 1, 1) := by decide +kernel
theorem dX3_longestTail_2 : decode cX3_longestTail 2 = .ok (.iconst 0, 1) := by decide +kernel
theorem dX3_longestTail_3 : decode cX3_longestTail 3 = .ok (.istore_n 2, 1) := by decide +kernel
theorem dX3_longestTail_4 : decode cX3_longestTail 4 = .ok (.iload_n 2, 1) := by decide +kernel
theorem dX3_longestTail_5 : decode cX3_longestTail 5 = .ok (.aload_n 0, 1) := by decide +kernel
theorem dX3_longestTail_6 : decode cX3_longestTail 6 = .ok (.getfield 9, 3) := by decide +kernel
theorem dX3_longestTail_9 : decode cX3_longestTail 9 = .ok (.if_icmp .ge 23, 3) := by decide +kernel
theorem dX3_longestTail_12 : decode cX3_longestTail 12 = .ok (.iload_n 1, 1) := by decide +kernel
theorem dX3_longestTail_13 : decode cX3_longestTail 13 = .ok (.aload_n 0, 1) := by decide +kernel
theorem dX3_longestTail_14 : decode cX3_longestTail 14 = .ok (.getfield 20, 3) := by decide +kernel
theorem dX3_longestTail_17 : decode cX3_longestTail 17 = .ok (.getfield 89, 3) := by decide +kernel
theorem dX3_longestTail_20 : decode cX3_longestTail 20 = .ok (.iload_n 2, 1) := by decide +kernel
theorem dX3_longestTail_21 : decode cX3_longestTail 21 = .ok (.iaload, 1) := by decide +kernel
theorem dX3_longestTail_22 : decode cX3_longestTail 22 = .ok (.invokestatic 121, 3) := by decide +kernel
theorem dX3_longestTail_25 : decode cX3_longestTail 25 = .ok (.istore_n 1, 1) := by decide +kernel
theorem dX3_longestTail_26 : decode cX3_longestTail 26 = .ok (.iinc 2 1, 3) := by decide +kernel
theorem dX3_longestTail_29 : decode cX3_longestTail 29 = .ok (.goto (-25), 3) := by decide +kernel
theorem dX3_longestTail_32 : decode cX3_longestTail 32 = .ok (.iload_n 1, 1) := by decide +kernel
theorem dX3_longestTail_33 : decode cX3_longestTail 33 = .ok (.ireturn, 1) := by decide +kernel
theorem dX3_pointsWithoutComers_0 : decode cX3_pointsWithoutComers 0 = .ok (.iconst 0, 1) := by decide +kernel
theorem dX3_pointsWithoutComers_1 : decode cX3_pointsWithoutComers 1 = .ok (.istore_n 1, 1) := by decide +kernel
theorem dX3_pointsWithoutComers_2 : decode cX3_pointsWithoutComers 2 = .ok (.iconst 0, 1) := by decide +kernel
theorem dX3_pointsWithoutComers_3 : decode cX3_pointsWithoutComers 3 = .ok (.istore_n 2, 1) := by decide +kernel
theorem dX3_pointsWithoutComers_4 : decode cX3_pointsWithoutComers 4 = .ok (.iload_n 2, 1) := by decide +kernel
theorem dX3_pointsWithoutComers_5 : decode cX3_pointsWithoutComers 5 = .ok (.aload_n 0, 1) := by decide +kernel
theorem dX3_pointsWithoutComers_6 : decode cX3_pointsWithoutComers 6 = .ok (.getfield 9, 3) := by decide +kernel
theorem dX3_pointsWithoutComers_9 : decode cX3_pointsWithoutComers 9 = .ok (.if_icmp .ge 26, 3) := by decide +kernel
theorem dX3_pointsWithoutComers_12 : decode cX3_pointsWithoutComers 12 = .ok (.iload_n 1, 1) := by decide +kernel
theorem dX3_pointsWithoutComers_13 : decode cX3_pointsWithoutComers 13 = .ok (.aload_n 0, 1) := by decide +kernel
theorem dX3_pointsWithoutComers_14 : decode cX3_pointsWithoutComers 14 = .ok (.getfield 24, 3) := by decide +kernel
theorem dX3_pointsWithoutComers_17 : decode cX3_pointsWithoutComers 17 = .ok (.iload_n 2, 1) := by decide +kernel
theorem dX3_pointsWithoutComers_18 : decode cX3_pointsWithoutComers 18 = .ok (.iaload, 1) := by decide +kernel
theorem dX3_pointsWithoutComers_19 : decode cX3_pointsWithoutComers 19 = .ok (.ifCond .ne 7, 3) := by decide +kernel
theorem dX3_pointsWithoutComers_22 : decode cX3_pointsWithoutComers 22 = .ok (.iconst 1, 1) := by decide +kernel
theorem dX3_pointsWithoutComers_23 : decode cX3_pointsWithoutComers 23 = .ok (.goto 4, 3) := by decide +kernel
theorem dX3_pointsWithoutComers_26 : decode cX3_pointsWithoutComers 26 = .ok (.iconst 0, 1) := by decide +kernel
theorem dX3_pointsWithoutComers_27 : decode cX3_pointsWithoutComers 27 = .ok (.iadd, 1) := by decide +kernel
theorem dX3_pointsWithoutComers_28 : decode cX3_pointsWithoutComers 28 = .ok (.istore_n 1, 1) := by decide +kernel
theorem dX3_pointsWithoutComers_29 : decode cX3_pointsWithoutComers 29 = .ok (.iinc 2 1, 3) := by decide +kernel
theorem dX3_pointsWithoutComers_32 : decode cX3_pointsWithoutComers 32 = .ok (.goto (-28), 3) := by decide +kernel
theorem dX3_pointsWithoutComers_35 : decode cX3_pointsWithoutComers 35 = .ok (.iload_n 1, 1) := by decide +kernel
theorem dX3_pointsWithoutComers_36 : decode cX3_pointsWithoutComers 36 = .ok (.ireturn, 1) := by decide +kernel
theorem dX3_stillRings_0 : decode cX3_stillRings 0 = .ok (.iconst 0, 1) := by decide +kernel
theorem dX3_stillRings_1 : decode cX3_stillRings 1 = .ok (.istore_n 1, 1) := by decide +kernel
theorem dX3_stillRings_2 : decode cX3_stillRings 2 = .ok (.iconst 0, 1) := by decide +kernel
theorem dX3_stillRings_3 : decode cX3_stillRings 3 = .ok (.istore_n 2, 1) := by decide +kernel
theorem dX3_stillRings_4 : decode cX3_stillRings 4 = .ok (.iload_n 2, 1) := by decide +kernel
theorem dX3_stillRings_5 : decode cX3_stillRings 5 = .ok (.aload_n 0, 1) := by decide +kernel
theorem dX3_stillRings_6 : decode cX3_stillRings 6 = .ok (.getfield 49, 3) := by decide +kernel
theorem dX3_stillRings_9 : decode cX3_stillRings 9 = .ok (.if_icmp .ge 26, 3) := by decide +kernel
theorem dX3_stillRings_12 : decode cX3_stillRings 12 = .ok (.iload_n 1, 1) := by decide +kernel
theorem dX3_stillRings_13 : decode cX3_stillRings 13 = .ok (.aload_n 0, 1) := by decide +kernel
theorem dX3_stillRings_14 : decode cX3_stillRings 14 = .ok (.getfield 37, 3) := by decide +kernel
theorem dX3_stillRings_17 : decode cX3_stillRings 17 = .ok (.iload_n 2, 1) := by decide +kernel
theorem dX3_stillRings_18 : decode cX3_stillRings 18 = .ok (.iaload, 1) := by decide +kernel
theorem dX3_stillRings_19 : decode cX3_stillRings 19 = .ok (.ifCond .ne 7, 3) := by decide +kernel
theorem dX3_stillRings_22 : decode cX3_stillRings 22 = .ok (.iconst 1, 1) := by decide +kernel
theorem dX3_stillRings_23 : decode cX3_stillRings 23 = .ok (.goto 4, 3) := by decide +kernel
theorem dX3_stillRings_26 : decode cX3_stillRings 26 = .ok (.iconst 0, 1) := by decide +kernel
theorem dX3_stillRings_27 : decode cX3_stillRings 27 = .ok (.iadd, 1) := by decide +kernel
theorem dX3_stillRings_28 : decode cX3_stillRings 28 = .ok (.istore_n 1, 1) := by decide +kernel
theorem dX3_stillRings_29 : decode cX3_stillRings 29 = .ok (.iinc 2 1, 3) := by decide +kernel
theorem dX3_stillRings_32 : decode cX3_stillRings 32 = .ok (.goto (-28), 3) := by decide +kernel
theorem dX3_stillRings_35 : decode cX3_stillRings 35 = .ok (.iload_n 1, 1) := by decide +kernel
theorem dX3_stillRings_36 : decode cX3_stillRings 36 = .ok (.ireturn, 1) := by decide +kernel
theorem dX3_isLike_0 : decode cX3_isLike 0 = .ok (.aload_n 0, 1) := by decide +kernel
theorem dX3_isLike_1 : decode cX3_isLike 1 = .ok (.getfield 46, 3) := by decide +kernel
theorem dX3_isLike_4 : decode cX3_isLike 4 = .ok (.iconst 0, 1) := by decide +kernel
theorem dX3_isLike_5 : decode cX3_isLike 5 = .ok (.invokestatic 78, 3) := by decide +kernel
theorem dX3_isLike_8 : decode cX3_isLike 8 = .ok (.aload_n 0, 1) := by decide +kernel
theorem dX3_isLike_9 : decode cX3_isLike 9 = .ok (.getfield 20, 3) := by decide +kernel
theorem dX3_isLike_12 : decode cX3_isLike 12 = .ok (.getfield 96, 3) := by decide +kernel
theorem dX3_isLike_15 : decode cX3_isLike 15 = .ok (.astore_n 2, 1) := by decide +kernel
theorem dX3_isLike_16 : decode cX3_isLike 16 = .ok (.aload_n 2, 1) := by decide +kernel
theorem dX3_isLike_17 : decode cX3_isLike 17 = .ok (.arraylength, 1) := by decide +kernel
theorem dX3_isLike_18 : decode cX3_isLike 18 = .ok (.istore_n 3, 1) := by decide +kernel
theorem dX3_isLike_19 : decode cX3_isLike 19 = .ok (.iconst 0, 1) := by decide +kernel
theorem dX3_isLike_20 : decode cX3_isLike 20 = .ok (.istore 4, 2) := by decide +kernel
theorem dX3_isLike_22 : decode cX3_isLike 22 = .ok (.iload 4, 2) := by decide +kernel
theorem dX3_isLike_24 : decode cX3_isLike 24 = .ok (.iload_n 3, 1) := by decide +kernel
theorem dX3_isLike_25 : decode cX3_isLike 25 = .ok (.if_icmp .ge 60, 3) := by decide +kernel
theorem dX3_isLike_28 : decode cX3_isLike 28 = .ok (.aload_n 2, 1) := by decide +kernel
theorem dX3_isLike_29 : decode cX3_isLike 29 = .ok (.iload 4, 2) := by decide +kernel
theorem dX3_isLike_31 : decode cX3_isLike 31 = .ok (.iaload, 1) := by decide +kernel
theorem dX3_isLike_32 : decode cX3_isLike 32 = .ok (.istore 5, 2) := by decide +kernel
theorem dX3_isLike_34 : decode cX3_isLike 34 = .ok (.iload 5, 2) := by decide +kernel
theorem dX3_isLike_36 : decode cX3_isLike 36 = .ok (.ifCond .le 43, 3) := by decide +kernel
theorem dX3_isLike_39 : decode cX3_isLike 39 = .ok (.iload 5, 2) := by decide +kernel
theorem dX3_isLike_41 : decode cX3_isLike 41 = .ok (.aload_n 0, 1) := by decide +kernel
theorem dX3_isLike_42 : decode cX3_isLike 42 = .ok (.getfield 46, 3) := by decide +kernel
theorem dX3_isLike_45 : decode cX3_isLike 45 = .ok (.arraylength, 1) := by decide +kernel
theorem dX3_isLike_46 : decode cX3_isLike 46 = .ok (.if_icmp .ge 33, 3) := by decide +kernel
theorem dX3_isLike_49 : decode cX3_isLike 49 = .ok (.aload_n 0, 1) := by decide +kernel
theorem dX3_isLike_50 : decode cX3_isLike 50 = .ok (.getfield 46, 3) := by decide +kernel
theorem dX3_isLike_53 : decode cX3_isLike 53 = .ok (.iload 5, 2) := by decide +kernel
theorem dX3_isLike_55 : decode cX3_isLike 55 = .ok (.iaload, 1) := by decide +kernel
theorem dX3_isLike_56 : decode cX3_isLike 56 = .ok (.ifCond .ne 23, 3) := by decide +kernel
theorem dX3_isLike_59 : decode cX3_isLike 59 = .ok (.aload_n 0, 1) := by decide +kernel
theorem dX3_isLike_60 : decode cX3_isLike 60 = .ok (.getfield 46, 3) := by decide +kernel
theorem dX3_isLike_63 : decode cX3_isLike 63 = .ok (.iload 5, 2) := by decide +kernel
theorem dX3_isLike_65 : decode cX3_isLike 65 = .ok (.iconst 1, 1) := by decide +kernel
theorem dX3_isLike_66 : decode cX3_isLike 66 = .ok (.iastore, 1) := by decide +kernel
theorem dX3_isLike_67 : decode cX3_isLike 67 = .ok (.aload_n 0, 1) := by decide +kernel
theorem dX3_isLike_68 : decode cX3_isLike 68 = .ok (.aload_n 1, 1) := by decide +kernel
theorem dX3_isLike_69 : decode cX3_isLike 69 = .ok (.iload 5, 2) := by decide +kernel
theorem dX3_isLike_71 : decode cX3_isLike 71 = .ok (.invokevirtual 127, 3) := by decide +kernel
theorem dX3_isLike_74 : decode cX3_isLike 74 = .ok (.ifCond .ne 5, 3) := by decide +kernel
theorem dX3_isLike_77 : decode cX3_isLike 77 = .ok (.iconst 0, 1) := by decide +kernel
theorem dX3_isLike_78 : decode cX3_isLike 78 = .ok (.ireturn, 1) := by decide +kernel
theorem dX3_isLike_79 : decode cX3_isLike 79 = .ok (.iinc 4 1, 3) := by decide +kernel
theorem dX3_isLike_82 : decode cX3_isLike 82 = .ok (.goto (-60), 3) := by decide +kernel
theorem dX3_isLike_85 : decode cX3_isLike 85 = .ok (.iconst 1, 1) := by decide +kernel
theorem dX3_isLike_86 : decode cX3_isLike 86 = .ok (.ireturn, 1) := by decide +kernel
theorem dX3_hasTailsOf_0 : decode cX3_hasTailsOf 0 = .ok (.aload_n 0, 1) := by decide +kernel
theorem dX3_hasTailsOf_1 : decode cX3_hasTailsOf 1 = .ok (.getfield 43, 3) := by decide +kernel
theorem dX3_hasTailsOf_4 : decode cX3_hasTailsOf 4 = .ok (.iconst 0, 1) := by decide +kernel
theorem dX3_hasTailsOf_5 : decode cX3_hasTailsOf 5 = .ok (.invokestatic 78, 3) := by decide +kernel
theorem dX3_hasTailsOf_8 : decode cX3_hasTailsOf 8 = .ok (.aload_n 0, 1) := by decide +kernel
theorem dX3_hasTailsOf_9 : decode cX3_hasTailsOf 9 = .ok (.aload_n 0, 1) := by decide +kernel
theorem dX3_hasTailsOf_10 : decode cX3_hasTailsOf 10 = .ok (.getfield 20, 3) := by decide +kernel
theorem dX3_hasTailsOf_13 : decode cX3_hasTailsOf 13 = .ok (.iload_n 2, 1) := by decide +kernel
theorem dX3_hasTailsOf_14 : decode cX3_hasTailsOf 14 = .ok (.iconst 1, 1) := by decide +kernel
theorem dX3_hasTailsOf_15 : decode cX3_hasTailsOf 15 = .ok (.invokevirtual 131, 3) := by decide +kernel
theorem dX3_hasTailsOf_18 : decode cX3_hasTailsOf 18 = .ok (.aload_n 0, 1) := by decide +kernel
theorem dX3_hasTailsOf_19 : decode cX3_hasTailsOf 19 = .ok (.aload_n 1, 1) := by decide +kernel
theorem dX3_hasTailsOf_20 : decode cX3_hasTailsOf 20 = .ok (.iload_n 2, 1) := by decide +kernel
theorem dX3_hasTailsOf_21 : decode cX3_hasTailsOf 21 = .ok (.iconst (-1), 1) := by decide +kernel
theorem dX3_hasTailsOf_22 : decode cX3_hasTailsOf 22 = .ok (.invokevirtual 131, 3) := by decide +kernel
theorem dX3_hasTailsOf_25 : decode cX3_hasTailsOf 25 = .ok (.aload_n 0, 1) := by decide +kernel
theorem dX3_hasTailsOf_26 : decode cX3_hasTailsOf 26 = .ok (.getfield 43, 3) := by decide +kernel
theorem dX3_hasTailsOf_29 : decode cX3_hasTailsOf 29 = .ok (.astore_n 3, 1) := by decide +kernel
theorem dX3_hasTailsOf_30 : decode cX3_hasTailsOf 30 = .ok (.aload_n 3, 1) := by decide +kernel
theorem dX3_hasTailsOf_31 : decode cX3_hasTailsOf 31 = .ok (.arraylength, 1) := by decide +kernel
theorem dX3_hasTailsOf_32 : decode cX3_hasTailsOf 32 = .ok (.istore 4, 2) := by decide +kernel
theorem dX3_hasTailsOf_34 : decode cX3_hasTailsOf 34 = .ok (.iconst 0, 1) := by decide +kernel
theorem dX3_hasTailsOf_35 : decode cX3_hasTailsOf 35 = .ok (.istore 5, 2) := by decide +kernel
theorem dX3_hasTailsOf_37 : decode cX3_hasTailsOf 37 = .ok (.iload 5, 2) := by decide +kernel
theorem dX3_hasTailsOf_39 : decode cX3_hasTailsOf 39 = .ok (.iload 4, 2) := by decide +kernel
theorem dX3_hasTailsOf_41 : decode cX3_hasTailsOf 41 = .ok (.if_icmp .ge 22, 3) := by decide +kernel
theorem dX3_hasTailsOf_44 : decode cX3_hasTailsOf 44 = .ok (.aload_n 3, 1) := by decide +kernel
theorem dX3_hasTailsOf_45 : decode cX3_hasTailsOf 45 = .ok (.iload 5, 2) := by decide +kernel
theorem dX3_hasTailsOf_47 : decode cX3_hasTailsOf 47 = .ok (.iaload, 1) := by decide +kernel
theorem dX3_hasTailsOf_48 : decode cX3_hasTailsOf 48 = .ok (.istore 6, 2) := by decide +kernel
theorem dX3_hasTailsOf_50 : decode cX3_hasTailsOf 50 = .ok (.iload 6, 2) := by decide +kernel
theorem dX3_hasTailsOf_52 : decode cX3_hasTailsOf 52 = .ok (.ifCond .eq 5, 3) := by decide +kernel
theorem dX3_hasTailsOf_55 : decode cX3_hasTailsOf 55 = .ok (.iconst 0, 1) := by decide +kernel
theorem dX3_hasTailsOf_56 : decode cX3_hasTailsOf 56 = .ok (.ireturn, 1) := by decide +kernel
theorem dX3_hasTailsOf_57 : decode cX3_hasTailsOf 57 = .ok (.iinc 5 1, 3) := by decide +kernel
theorem dX3_hasTailsOf_60 : decode cX3_hasTailsOf 60 = .ok (.goto (-23), 3) := by decide +kernel
theorem dX3_hasTailsOf_63 : decode cX3_hasTailsOf 63 = .ok (.iconst 1, 1) := by decide +kernel
theorem dX3_hasTailsOf_64 : decode cX3_hasTailsOf 64 = .ok (.ireturn, 1) := by decide +kernel
theorem dX3_tally_0 : decode cX3_tally 0 = .ok (.iconst 0, 1) := by decide +kernel
theorem dX3_tally_1 : decode cX3_tally 1 = .ok (.istore 4, 2) := by decide +kernel
theorem dX3_tally_3 : decode cX3_tally 3 = .ok (.iload 4, 2) := by decide +kernel
theorem dX3_tally_5 : decode cX3_tally 5 = .ok (.aload_n 1, 1) := by decide +kernel
theorem dX3_tally_6 : decode cX3_tally 6 = .ok (.getfield 135, 3) := by decide +kernel
theorem dX3_tally_9 : decode cX3_tally 9 = .ok (.if_icmp .ge 55, 3) := by decide +kernel
theorem dX3_tally_12 : decode cX3_tally 12 = .ok (.aload_n 1, 1) := by decide +kernel
theorem dX3_tally_13 : decode cX3_tally 13 = .ok (.getfield 89, 3) := by decide +kernel
theorem dX3_tally_16 : decode cX3_tally 16 = .ok (.iload 4, 2) := by decide +kernel
theorem dX3_tally_18 : decode cX3_tally 18 = .ok (.iaload, 1) := by decide +kernel
theorem dX3_tally_19 : decode cX3_tally 19 = .ok (.istore 5, 2) := by decide +kernel
theorem dX3_tally_21 : decode cX3_tally 21 = .ok (.aload_n 1, 1) := by decide +kernel
theorem dX3_tally_22 : decode cX3_tally 22 = .ok (.getfield 96, 3) := by decide +kernel
theorem dX3_tally_25 : decode cX3_tally 25 = .ok (.iload 4, 2) := by decide +kernel
theorem dX3_tally_27 : decode cX3_tally 27 = .ok (.iaload, 1) := by decide +kernel
theorem dX3_tally_28 : decode cX3_tally 28 = .ok (.iload_n 2, 1) := by decide +kernel
theorem dX3_tally_29 : decode cX3_tally 29 = .ok (.if_icmp .ne 29, 3) := by decide +kernel
theorem dX3_tally_32 : decode cX3_tally 32 = .ok (.iload 5, 2) := by decide +kernel
theorem dX3_tally_34 : decode cX3_tally 34 = .ok (.ifCond .lt 24, 3) := by decide +kernel
theorem dX3_tally_37 : decode cX3_tally 37 = .ok (.iload 5, 2) := by decide +kernel
theorem dX3_tally_39 : decode cX3_tally 39 = .ok (.aload_n 0, 1) := by decide +kernel
theorem dX3_tally_40 : decode cX3_tally 40 = .ok (.getfield 43, 3) := by decide +kernel
theorem dX3_tally_43 : decode cX3_tally 43 = .ok (.arraylength, 1) := by decide +kernel
theorem dX3_tally_44 : decode cX3_tally 44 = .ok (.if_icmp .ge 14, 3) := by decide +kernel
theorem dX3_tally_47 : decode cX3_tally 47 = .ok (.aload_n 0, 1) := by decide +kernel
theorem dX3_tally_48 : decode cX3_tally 48 = .ok (.getfield 43, 3) := by decide +kernel
theorem dX3_tally_51 : decode cX3_tally 51 = .ok (.iload 5, 2) := by decide +kernel
theorem dX3_tally_53 : decode cX3_tally 53 = .ok (.dup2, 1) := by decide +kernel
theorem dX3_tally_54 : decode cX3_tally 54 = .ok (.iaload, 1) := by decide +kernel
theorem dX3_tally_55 : decode cX3_tally 55 = .ok (.iload_n 3, 1) := by decide +kernel
theorem dX3_tally_56 : decode cX3_tally 56 = .ok (.iadd, 1) := by decide +kernel
theorem dX3_tally_57 : decode cX3_tally 57 = .ok (.iastore, 1) := by decide +kernel
theorem dX3_tally_58 : decode cX3_tally 58 = .ok (.iinc 4 1, 3) := by decide +kernel
theorem dX3_tally_61 : decode cX3_tally 61 = .ok (.goto (-58), 3) := by decide +kernel
theorem dX3_tally_64 : decode cX3_tally 64 = .ok (.return_, 1) := by decide +kernel
theorem dX4_init_0 : decode cX4_init 0 = .ok (.aload_n 0, 1) := by decide +kernel
theorem dX4_init_1 : decode cX4_init 1 = .ok (.invokespecial 3, 3) := by decide +kernel
theorem dX4_init_4 : decode cX4_init 4 = .ok (.aload_n 0, 1) := by decide +kernel
theorem dX4_init_5 : decode cX4_init 5 = .ok (.iload_n 1, 1) := by decide +kernel
theorem dX4_init_6 : decode cX4_init 6 = .ok (.putfield 9, 3) := by decide +kernel
theorem dX4_init_9 : decode cX4_init 9 = .ok (.aload_n 0, 1) := by decide +kernel
theorem dX4_init_10 : decode cX4_init 10 = .ok (.bipush 7, 2) := by decide +kernel
theorem dX4_init_12 : decode cX4_init 12 = .ok (.bipush 65, 2) := by decide +kernel
theorem dX4_init_14 : decode cX4_init 14 = .ok (.multianewarray 15 2, 4) := by decide +kernel
theorem dX4_init_18 : decode cX4_init 18 = .ok (.putfield 17, 3) := by decide +kernel
theorem dX4_init_21 : decode cX4_init 21 = .ok (.aload_n 0, 1) := by decide +kernel
theorem dX4_init_22 : decode cX4_init 22 = .ok (.bipush 7, 2) := by decide +kernel
theorem dX4_init_24 : decode cX4_init 24 = .ok (.newarray .int, 2) := by decide +kernel
theorem dX4_init_26 : decode cX4_init 26 = .ok (.putfield 20, 3) := by decide +kernel
theorem dX4_init_29 : decode cX4_init 29 = .ok (.aload_n 0, 1) := by decide +kernel
theorem dX4_init_30 : decode cX4_init 30 = .ok (.bipush 7, 2) := by decide +kernel
theorem dX4_init_32 : decode cX4_init 32 = .ok (.bipush 65, 2) := by decide +kernel
theorem dX4_init_34 : decode cX4_init 34 = .ok (.multianewarray 15 2, 4) := by decide +kernel
theorem dX4_init_38 : decode cX4_init 38 = .ok (.putfield 24, 3) := by decide +kernel
theorem dX4_init_41 : decode cX4_init 41 = .ok (.aload_n 0, 1) := by decide +kernel
theorem dX4_init_42 : decode cX4_init 42 = .ok (.bipush 7, 2) := by decide +kernel
theorem dX4_init_44 : decode cX4_init 44 = .ok (.newarray .int, 2) := by decide +kernel
theorem dX4_init_46 : decode cX4_init 46 = .ok (.putfield 27, 3) := by decide +kernel
theorem dX4_init_49 : decode cX4_init 49 = .ok (.aload_n 0, 1) := by decide +kernel
theorem dX4_init_50 : decode cX4_init 50 = .ok (.getfield 17, 3) := by decide +kernel
theorem dX4_init_53 : decode cX4_init 53 = .ok (.iconst 0, 1) := by decide +kernel
theorem dX4_init_54 : decode cX4_init 54 = .ok (.aaload, 1) := by decide +kernel
theorem dX4_init_55 : decode cX4_init 55 = .ok (.iconst 1, 1) := by decide +kernel
theorem dX4_init_56 : decode cX4_init 56 = .ok (.iconst 1, 1) := by decide +kernel
theorem dX4_init_57 : decode cX4_init 57 = .ok (.iastore, 1) := by decide +kernel
theorem dX4_init_58 : decode cX4_init 58 = .ok (.aload_n 0, 1) := by decide +kernel
theorem dX4_init_59 : decode cX4_init 59 = .ok (.getfield 20, 3) := by decide +kernel
theorem dX4_init_62 : decode cX4_init 62 = .ok (.iconst 0, 1) := by decide +kernel
theorem dX4_init_63 : decode cX4_init 63 = .ok (.iconst 1, 1) := by decide +kernel
theorem dX4_init_64 : decode cX4_init 64 = .ok (.iastore, 1) := by decide +kernel
theorem dX4_init_65 : decode cX4_init 65 = .ok (.aload_n 0, 1) := by decide +kernel
theorem dX4_init_66 : decode cX4_init 66 = .ok (.aconst_null, 1) := by decide +kernel
theorem dX4_init_67 : decode cX4_init 67 = .ok (.putfield 30, 3) := by decide +kernel
theorem dX4_init_70 : decode cX4_init 70 = .ok (.aload_n 0, 1) := by decide +kernel
theorem dX4_init_71 : decode cX4_init 71 = .ok (.iconst 0, 1) := by decide +kernel
theorem dX4_init_72 : decode cX4_init 72 = .ok (.putfield 34, 3) := by decide +kernel
theorem dX4_init_75 : decode cX4_init 75 = .ok (.return_, 1) := by decide +kernel
theorem dX4_power_0 : decode cX4_power 0 = .ok (.iconst 1, 1) := by decide +kernel
theorem dX4_power_1 : decode cX4_power 1 = .ok (.istore_n 2, 1) := by decide +kernel
theorem dX4_power_2 : decode cX4_power 2 = .ok (.iconst 0, 1) := by decide +kernel
theorem dX4_power_3 : decode cX4_power 3 = .ok (.istore_n 3, 1) := by decide +kernel
theorem dX4_power_4 : decode cX4_power 4 = .ok (.iload_n 3, 1) := by decide +kernel
theorem dX4_power_5 : decode cX4_power 5 = .ok (.iload_n 1, 1) := by decide +kernel
theorem dX4_power_6 : decode cX4_power 6 = .ok (.if_icmp .ge 13, 3) := by decide +kernel
theorem dX4_power_9 : decode cX4_power 9 = .ok (.iload_n 2, 1) := by decide +kernel
theorem dX4_power_10 : decode cX4_power 10 = .ok (.iload_n 0, 1) := by decide +kernel
theorem dX4_power_11 : decode cX4_power 11 = .ok (.imul, 1) := by decide +kernel
theorem dX4_power_12 : decode cX4_power 12 = .ok (.istore_n 2, 1) := by decide +kernel
theorem dX4_power_13 : decode cX4_power 13 = .ok (.iinc 3 1, 3) := by decide +kernel
theorem dX4_power_16 : decode cX4_power 16 = .ok (.goto (-12), 3) := by decide +kernel
theorem dX4_power_19 : decode cX4_power 19 = .ok (.iload_n 2, 1) := by decide +kernel
theorem dX4_power_20 : decode cX4_power 20 = .ok (.ireturn, 1) := by decide +kernel
theorem dX4_degreeOf_0 : decode cX4_degreeOf 0 = .ok (.aload_n 0, 1) := by decide +kernel
theorem dX4_degreeOf_1 : decode cX4_degreeOf 1 = .ok (.getfield 27, 3) := by decide +kernel
theorem dX4_degreeOf_4 : decode cX4_degreeOf 4 = .ok (.iload_n 1, 1) := by decide +kernel
theorem dX4_degreeOf_5 : decode cX4_degreeOf 5 = .ok (.iaload, 1) := by decide +kernel
theorem dX4_degreeOf_6 : decode cX4_degreeOf 6 = .ok (.ireturn, 1) := by decide +kernel
theorem dX4_numberOf_0 : decode cX4_numberOf 0 = .ok (.iload_n 2, 1) := by decide +kernel
theorem dX4_numberOf_1 : decode cX4_numberOf 1 = .ok (.ifCond .lt 24, 3) := by decide +kernel
theorem dX4_numberOf_4 : decode cX4_numberOf 4 = .ok (.iload_n 2, 1) := by decide +kernel
theorem dX4_numberOf_5 : decode cX4_numberOf 5 = .ok (.aload_n 0, 1) := by decide +kernel
theorem dX4_numberOf_6 : decode cX4_numberOf 6 = .ok (.getfield 27, 3) := by decide +kernel
theorem dX4_numberOf_9 : decode cX4_numberOf 9 = .ok (.iload_n 1, 1) := by decide +kernel
theorem dX4_numberOf_10 : decode cX4_numberOf 10 = .ok (.iaload, 1) := by decide +kernel
theorem dX4_numberOf_11 : decode cX4_numberOf 11 = .ok (.if_icmp .gt 14, 3) := by decide +kernel
theorem dX4_numberOf_14 : decode cX4_numberOf 14 = .ok (.aload_n 0, 1) := by decide +kernel
theorem dX4_numberOf_15 : decode cX4_numberOf 15 = .ok (.getfield 24, 3) := by decide +kernel
theorem dX4_numberOf_18 : decode cX4_numberOf 18 = .ok (.iload_n 1, 1) := by decide +kernel
theorem dX4_numberOf_19 : decode cX4_numberOf 19 = .ok (.aaload, 1) := by decide +kernel
theorem dX4_numberOf_20 : decode cX4_numberOf 20 = .ok (.iload_n 2, 1) := by decide +kernel
theorem dX4_numberOf_21 : decode cX4_numberOf 21 = .ok (.iaload, 1) := by decide +kernel
theorem dX4_numberOf_22 : decode cX4_numberOf 22 = .ok (.goto 4, 3) := by decide +kernel
theorem dX4_numberOf_25 : decode cX4_numberOf 25 = .ok (.iconst 0, 1) := by decide +kernel
theorem dX4_numberOf_26 : decode cX4_numberOf 26 = .ok (.ireturn, 1) := by decide +kernel
theorem dX4_prepare_0 : decode cX4_prepare 0 = .ok (.aload_n 0, 1) := by decide +kernel
theorem dX4_prepare_1 : decode cX4_prepare 1 = .ok (.getfield 30, 3) := by decide +kernel
theorem dX4_prepare_4 : decode cX4_prepare 4 = .ok (.aload_n 1, 1) := by decide +kernel
theorem dX4_prepare_5 : decode cX4_prepare 5 = .ok (.if_acmp .eq 13, 3) := by decide +kernel
theorem dX4_prepare_8 : decode cX4_prepare 8 = .ok (.aload_n 0, 1) := by decide +kernel
theorem dX4_prepare_9 : decode cX4_prepare 9 = .ok (.aload_n 1, 1) := by decide +kernel
theorem dX4_prepare_10 : decode cX4_prepare 10 = .ok (.putfield 30, 3) := by decide +kernel
theorem dX4_prepare_13 : decode cX4_prepare 13 = .ok (.aload_n 0, 1) := by decide +kernel
theorem dX4_prepare_14 : decode cX4_prepare 14 = .ok (.iconst 0, 1) := by decide +kernel
theorem dX4_prepare_15 : decode cX4_prepare 15 = .ok (.putfield 34, 3) := by decide +kernel
theorem dX4_prepare_18 : decode cX4_prepare 18 = .ok (.aload_n 0, 1) := by decide +kernel
theorem dX4_prepare_19 : decode cX4_prepare 19 = .ok (.getfield 34, 3) := by decide +kernel
theorem dX4_prepare_22 : decode cX4_prepare 22 = .ok (.iconst 1, 1) := by decide +kernel
theorem dX4_prepare_23 : decode cX4_prepare 23 = .ok (.iadd, 1) := by decide +kernel
theorem dX4_prepare_24 : decode cX4_prepare 24 = .ok (.istore_n 3, 1) := by decide +kernel
theorem dX4_prepare_25 : decode cX4_prepare 25 = .ok (.iload_n 3, 1) := by decide +kernel
theorem dX4_prepare_26 : decode cX4_prepare 26 = .ok (.iload_n 2, 1) := by decide +kernel
theorem dX4_prepare_27 : decode cX4_prepare 27 = .ok (.if_icmp .gt 76, 3) := by decide +kernel
theorem dX4_prepare_30 : decode cX4_prepare 30 = .ok (.iload_n 3, 1) := by decide +kernel
theorem dX4_prepare_31 : decode cX4_prepare 31 = .ok (.bipush 6, 2) := by decide +kernel
theorem dX4_prepare_33 : decode cX4_prepare 33 = .ok (.if_icmp .gt 70, 3) := by decide +kernel
theorem dX4_prepare_36 : decode cX4_prepare 36 = .ok (.aload_n 0, 1) := by decide +kernel
theorem dX4_prepare_37 : decode cX4_prepare 37 = .ok (.getfield 30, 3) := by decide +kernel
theorem dX4_prepare_40 : decode cX4_prepare 40 = .ok (.aload_n 0, 1) := by decide +kernel
theorem dX4_prepare_41 : decode cX4_prepare 41 = .ok (.getfield 17, 3) := by decide +kernel
theorem dX4_prepare_44 : decode cX4_prepare 44 = .ok (.iload_n 3, 1) := by decide +kernel
theorem dX4_prepare_45 : decode cX4_prepare 45 = .ok (.iconst 1, 1) := by decide +kernel
theorem dX4_prepare_46 : decode cX4_prepare 46 = .ok (.isub, 1) := by decide +kernel
theorem dX4_prepare_47 : decode cX4_prepare 47 = .ok (.aaload, 1) := by decide +kernel
theorem dX4_prepare_48 : decode cX4_prepare 48 = .ok (.aload_n 0, 1) := by decide +kernel
theorem dX4_prepare_49 : decode cX4_prepare 49 = .ok (.getfield 20, 3) := by decide +kernel
theorem dX4_prepare_52 : decode cX4_prepare 52 = .ok (.iload_n 3, 1) := by decide +kernel
theorem dX4_prepare_53 : decode cX4_prepare 53 = .ok (.iconst 1, 1) := by decide +kernel
theorem dX4_prepare_54 : decode cX4_prepare 54 = .ok (.isub, 1) := by decide +kernel
theorem dX4_prepare_55 : decode cX4_prepare 55 = .ok (.iaload, 1) := by decide +kernel
theorem dX4_prepare_56 : decode cX4_prepare 56 = .ok (.aload_n 0, 1) := by decide +kernel
theorem dX4_prepare_57 : decode cX4_prepare 57 = .ok (.getfield 17, 3) := by decide +kernel
theorem dX4_prepare_60 : decode cX4_prepare 60 = .ok (.iload_n 3, 1) := by decide +kernel
theorem dX4_prepare_61 : decode cX4_prepare 61 = .ok (.aaload, 1) := by decide +kernel
theorem dX4_prepare_62 : decode cX4_prepare 62 = .ok (.invokevirtual 37, 3) := by decide +kernel
theorem dX4_prepare_65 : decode cX4_prepare 65 = .ok (.aload_n 0, 1) := by decide +kernel
theorem dX4_prepare_66 : decode cX4_prepare 66 = .ok (.getfield 20, 3) := by decide +kernel
theorem dX4_prepare_69 : decode cX4_prepare 69 = .ok (.iload_n 3, 1) := by decide +kernel
theorem dX4_prepare_70 : decode cX4_prepare 70 = .ok (.aload_n 0, 1) := by decide +kernel
theorem dX4_prepare_71 : decode cX4_prepare 71 = .ok (.getfield 20, 3) := by decide +kernel
theorem dX4_prepare_74 : decode cX4_prepare 74 = .ok (.iload_n 3, 1) := by decide +kernel
theorem dX4_prepare_75 : decode cX4_prepare 75 = .ok (.iconst 1, 1) := by decide +kernel
theorem dX4_prepare_76 : decode cX4_prepare 76 = .ok (.isub, 1) := by decide +kernel
theorem dX4_prepare_77 : decode cX4_prepare 77 = .ok (.iaload, 1) := by decide +kernel
theorem dX4_prepare_78 : decode cX4_prepare 78 = .ok (.aload_n 0, 1) := by decide +kernel
theorem dX4_prepare_79 : decode cX4_prepare 79 = .ok (.getfield 30, 3) := by decide +kernel
theorem dX4_prepare_82 : decode cX4_prepare 82 = .ok (.getfield 43, 3) := by decide +kernel
theorem dX4_prepare_85 : decode cX4_prepare 85 = .ok (.imul, 1) := by decide +kernel
theorem dX4_prepare_86 : decode cX4_prepare 86 = .ok (.iastore, 1) := by decide +kernel
theorem dX4_prepare_87 : decode cX4_prepare 87 = .ok (.aload_n 0, 1) := by decide +kernel
theorem dX4_prepare_88 : decode cX4_prepare 88 = .ok (.iload_n 3, 1) := by decide +kernel
theorem dX4_prepare_89 : decode cX4_prepare 89 = .ok (.invokevirtual 46, 3) := by decide +kernel
theorem dX4_prepare_92 : decode cX4_prepare 92 = .ok (.aload_n 0, 1) := by decide +kernel
theorem dX4_prepare_93 : decode cX4_prepare 93 = .ok (.iload_n 3, 1) := by decide +kernel
theorem dX4_prepare_94 : decode cX4_prepare 94 = .ok (.putfield 34, 3) := by decide +kernel
theorem dX4_prepare_97 : decode cX4_prepare 97 = .ok (.iinc 3 1, 3) := by decide +kernel
theorem dX4_prepare_100 : decode cX4_prepare 100 = .ok (.goto (-75), 3) := by decide +kernel
theorem dX4_prepare_103 : decode cX4_prepare 103 = .ok (.return_, 1) := by decide +kernel
theorem dX4_divideOut_0 : decode cX4_divideOut 0 = .ok (.aload_n 0, 1) := by decide +kernel
theorem dX4_divideOut_1 : decode cX4_divideOut 1 = .ok (.getfield 24, 3) := by decide +kernel
theorem dX4_divideOut_4 : decode cX4_divideOut 4 = .ok (.iload_n 1, 1) := by decide +kernel
theorem dX4_divideOut_5 : decode cX4_divideOut 5 = .ok (.aaload, 1) := by decide +kernel
theorem dX4_divideOut_6 : decode cX4_divideOut 6 = .ok (.astore_n 2, 1) := by decide +kernel
theorem dX4_divideOut_7 : decode cX4_divideOut 7 = .ok (.aload_n 0, 1) := by decide +kernel
theorem dX4_divideOut_8 : decode cX4_divideOut 8 = .ok (.getfield 17, 3) := by decide +kernel
theorem dX4_divideOut_11 : decode cX4_divideOut 11 = .ok (.iload_n 1, 1) := by decide +kernel
theorem dX4_divideOut_12 : decode cX4_divideOut 12 = .ok (.aaload, 1) := by decide +kernel
theorem dX4_divideOut_13 : decode cX4_divideOut 13 = .ok (.iconst 0, 1) := by decide +kernel
theorem dX4_divideOut_14 : decode cX4_divideOut 14 = .ok (.aload_n 2, 1) := by decide +kernel
theorem dX4_divideOut_15 : decode cX4_divideOut 15 = .ok (.iconst 0, 1) := by decide +kernel
theorem dX4_divideOut_16 : decode cX4_divideOut 16 = .ok (.aload_n 2, 1) := by decide +kernel
theorem dX4_divideOut_17 : decode cX4_divideOut 17 = .ok (.arraylength, 1) := by decide +kernel
theorem dX4_divideOut_18 : decode cX4_divideOut 18 = .ok (.invokestatic 50, 3) := by decide +kernel
theorem dX4_divideOut_21 : decode cX4_divideOut 21 = .ok (.aload_n 2, 1) := by decide +kernel
theorem dX4_divideOut_22 : decode cX4_divideOut 22 = .ok (.iconst 1, 1) := by decide +kernel
theorem dX4_divideOut_23 : decode cX4_divideOut 23 = .ok (.aload_n 2, 1) := by decide +kernel
theorem dX4_divideOut_24 : decode cX4_divideOut 24 = .ok (.iconst 1, 1) := by decide +kernel
theorem dX4_divideOut_25 : decode cX4_divideOut 25 = .ok (.iaload, 1) := by decide +kernel
theorem dX4_divideOut_26 : decode cX4_divideOut 26 = .ok (.iconst 1, 1) := by decide +kernel
theorem dX4_divideOut_27 : decode cX4_divideOut 27 = .ok (.isub, 1) := by decide +kernel
theorem dX4_divideOut_28 : decode cX4_divideOut 28 = .ok (.aload_n 0, 1) := by decide +kernel
theorem dX4_divideOut_29 : decode cX4_divideOut 29 = .ok (.getfield 9, 3) := by decide +kernel
theorem dX4_divideOut_32 : decode cX4_divideOut 32 = .ok (.invokestatic 56, 3) := by decide +kernel
theorem dX4_divideOut_35 : decode cX4_divideOut 35 = .ok (.iastore, 1) := by decide +kernel
theorem dX4_divideOut_36 : decode cX4_divideOut 36 = .ok (.aload_n 0, 1) := by decide +kernel
theorem dX4_divideOut_37 : decode cX4_divideOut 37 = .ok (.getfield 27, 3) := by decide +kernel
theorem dX4_divideOut_40 : decode cX4_divideOut 40 = .ok (.iload_n 1, 1) := by decide +kernel
theorem dX4_divideOut_41 : decode cX4_divideOut 41 = .ok (.aload_n 0, 1) := by decide +kernel
theorem dX4_divideOut_42 : decode cX4_divideOut 42 = .ok (.getfield 20, 3) := by decide +kernel
theorem dX4_divideOut_45 : decode cX4_divideOut 45 = .ok (.iload_n 1, 1) := by decide +kernel
theorem dX4_divideOut_46 : decode cX4_divideOut 46 = .ok (.iaload, 1) := by decide +kernel
theorem dX4_divideOut_47 : decode cX4_divideOut 47 = .ok (.iastore, 1) := by decide +kernel
theorem dX4_divideOut_48 : decode cX4_divideOut 48 = .ok (.iconst 1, 1) := by decide +kernel
theorem dX4_divideOut_49 : decode cX4_divideOut 49 = .ok (.istore_n 3, 1) := by decide +kernel
theorem dX4_divideOut_50 : decode cX4_divideOut 50 = .ok (.iload_n 3, 1) := by decide +kernel
theorem dX4_divideOut_51 : decode cX4_divideOut 51 = .ok (.iload_n 1, 1) := by decide +kernel
theorem dX4_divideOut_52 : decode cX4_divideOut 52 = .ok (.if_icmp .ge 53, 3) := by decide +kernel
theorem dX4_divideOut_55 : decode cX4_divideOut 55 = .ok (.iload_n 1, 1) := by decide +kernel
theorem dX4_divideOut_56 : decode cX4_divideOut 56 = .ok (.iload_n 3, 1) := by decide +kernel
theorem dX4_divideOut_57 : decode cX4_divideOut 57 = .ok (.irem, 1) := by decide +kernel
theorem dX4_divideOut_58 : decode cX4_divideOut 58 = .ok (.ifCond .ne 41, 3) := by decide +kernel
theorem dX4_divideOut_61 : decode cX4_divideOut 61 = .ok (.aload_n 0, 1) := by decide +kernel
theorem dX4_divideOut_62 : decode cX4_divideOut 62 = .ok (.aload_n 2, 1) := by decide +kernel
theorem dX4_divideOut_63 : decode cX4_divideOut 63 = .ok (.aload_n 0, 1) := by decide +kernel
theorem dX4_divideOut_64 : decode cX4_divideOut 64 = .ok (.getfield 27, 3) := by decide +kernel
theorem dX4_divideOut_67 : decode cX4_divideOut 67 = .ok (.iload_n 1, 1) := by decide +kernel
theorem dX4_divideOut_68 : decode cX4_divideOut 68 = .ok (.iaload, 1) := by decide +kernel
theorem dX4_divideOut_69 : decode cX4_divideOut 69 = .ok (.aload_n 0, 1) := by decide +kernel
theorem dX4_divideOut_70 : decode cX4_divideOut 70 = .ok (.getfield 24, 3) := by decide +kernel
theorem dX4_divideOut_73 : decode cX4_divideOut 73 = .ok (.iload_n 3, 1) := by decide +kernel
theorem dX4_divideOut_74 : decode cX4_divideOut 74 = .ok (.aaload, 1) := by decide +kernel
theorem dX4_divideOut_75 : decode cX4_divideOut 75 = .ok (.aload_n 0, 1) := by decide +kernel
theorem dX4_divideOut_76 : decode cX4_divideOut 76 = .ok (.getfield 27, 3) := by decide +kernel
theorem dX4_divideOut_79 : decode cX4_divideOut 79 = .ok (.iload_n 3, 1) := by decide +kernel
theorem dX4_divideOut_80 : decode cX4_divideOut 80 = .ok (.iaload, 1) := by decide +kernel
theorem dX4_divideOut_81 : decode cX4_divideOut 81 = .ok (.invokevirtual 62, 3) := by decide +kernel
theorem dX4_divideOut_84 : decode cX4_divideOut 84 = .ok (.aload_n 0, 1) := by decide +kernel
theorem dX4_divideOut_85 : decode cX4_divideOut 85 = .ok (.getfield 27, 3) := by decide +kernel
theorem dX4_divideOut_88 : decode cX4_divideOut 88 = .ok (.iload_n 1, 1) := by decide +kernel
theorem dX4_divideOut_89 : decode cX4_divideOut 89 = .ok (.dup2, 1) := by decide +kernel
theorem dX4_divideOut_90 : decode cX4_divideOut 90 = .ok (.iaload, 1) := by decide +kernel
theorem dX4_divideOut_91 : decode cX4_divideOut 91 = .ok (.aload_n 0, 1) := by decide +kernel
theorem dX4_divideOut_92 : decode cX4_divideOut 92 = .ok (.getfield 27, 3) := by decide +kernel
theorem dX4_divideOut_95 : decode cX4_divideOut 95 = .ok (.iload_n 3, 1) := by decide +kernel
theorem dX4_divideOut_96 : decode cX4_divideOut 96 = .ok (.iaload, 1) := by decide +kernel
theorem dX4_divideOut_97 : decode cX4_divideOut 97 = .ok (.isub, 1) := by decide +kernel
theorem dX4_divideOut_98 : decode cX4_divideOut 98 = .ok (.iastore, 1) := by decide +kernel
theorem dX4_divideOut_99 : decode cX4_divideOut 99 = .ok (.iinc 3 1, 3) := by decide +kernel
theorem dX4_divideOut_102 : decode cX4_divideOut 102 = .ok (.goto (-52), 3) := by decide +kernel
theorem dX4_divideOut_105 : decode cX4_divideOut 105 = .ok (.return_, 1) := by decide +kernel
theorem dX4_divide_0 : decode cX4_divide 0 = .ok (.aload_n 3, 1) := by decide +kernel
theorem dX4_divide_1 : decode cX4_divide 1 = .ok (.iload 4, 2) := by decide +kernel
theorem dX4_divide_3 : decode cX4_divide 3 = .ok (.iaload, 1) := by decide +kernel
theorem dX4_divide_4 : decode cX4_divide 4 = .ok (.aload_n 0, 1) := by decide +kernel
theorem dX4_divide_5 : decode cX4_divide 5 = .ok (.getfield 9, 3) := by decide +kernel
theorem dX4_divide_8 : decode cX4_divide 8 = .ok (.invokestatic 66, 3) := by decide +kernel
theorem dX4_divide_11 : decode cX4_divide 11 = .ok (.istore 5, 2) := by decide +kernel
theorem dX4_divide_13 : decode cX4_divide 13 = .ok (.iload_n 2, 1) := by decide +kernel
theorem dX4_divide_14 : decode cX4_divide 14 = .ok (.istore 6, 2) := by decide +kernel
theorem dX4_divide_16 : decode cX4_divide 16 = .ok (.iload 6, 2) := by decide +kernel
theorem dX4_divide_18 : decode cX4_divide 18 = .ok (.iload 4, 2) := by decide +kernel
theorem dX4_divide_20 : decode cX4_divide 20 = .ok (.if_icmp .lt 78, 3) := by decide +kernel
theorem dX4_divide_23 : decode cX4_divide 23 = .ok (.aload_n 1, 1) := by decide +kernel
theorem dX4_divide_24 : decode cX4_divide 24 = .ok (.iload 6, 2) := by decide +kernel
theorem dX4_divide_26 : decode cX4_divide 26 = .ok (.iaload, 1) := by decide +kernel
theorem dX4_divide_27 : decode cX4_divide 27 = .ok (.iload 5, 2) := by decide +kernel
theorem dX4_divide_29 : decode cX4_divide 29 = .ok (.imul, 1) := by decide +kernel
theorem dX4_divide_30 : decode cX4_divide 30 = .ok (.aload_n 0, 1) := by decide +kernel
theorem dX4_divide_31 : decode cX4_divide 31 = .ok (.getfield 9, 3) := by decide +kernel
theorem dX4_divide_34 : decode cX4_divide 34 = .ok (.irem, 1) := by decide +kernel
theorem dX4_divide_35 : decode cX4_divide 35 = .ok (.istore 7, 2) := by decide +kernel
theorem dX4_divide_37 : decode cX4_divide 37 = .ok (.iconst 0, 1) := by decide +kernel
theorem dX4_divide_38 : decode cX4_divide 38 = .ok (.istore 8, 2) := by decide +kernel
theorem dX4_divide_40 : decode cX4_divide 40 = .ok (.iload 8, 2) := by decide +kernel
theorem dX4_divide_42 : decode cX4_divide 42 = .ok (.iload 4, 2) := by decide +kernel
theorem dX4_divide_44 : decode cX4_divide 44 = .ok (.if_icmp .ge 42, 3) := by decide +kernel
theorem dX4_divide_47 : decode cX4_divide 47 = .ok (.iload 6, 2) := by decide +kernel
theorem dX4_divide_49 : decode cX4_divide 49 = .ok (.iload 4, 2) := by decide +kernel
theorem dX4_divide_51 : decode cX4_divide 51 = .ok (.isub, 1) := by decide +kernel
theorem dX4_divide_52 : decode cX4_divide 52 = .ok (.iload 8, 2) := by decide +kernel
theorem dX4_divide_54 : decode cX4_divide 54 = .ok (.iadd, 1) := by decide +kernel
theorem dX4_divide_55 : decode cX4_divide 55 = .ok (.istore 9, 2) := by decide +kernel
theorem dX4_divide_57 : decode cX4_divide 57 = .ok (.aload_n 1, 1) := by decide +kernel
theorem dX4_divide_58 : decode cX4_divide 58 = .ok (.iload 9, 2) := by decide +kernel
theorem dX4_divide_60 : decode cX4_divide 60 = .ok (.aload_n 1, 1) := by decide +kernel
theorem dX4_divide_61 : decode cX4_divide 61 = .ok (.iload 9, 2) := by decide +kernel
theorem dX4_divide_63 : decode cX4_divide 63 = .ok (.iaload, 1) := by decide +kernel
theorem dX4_divide_64 : decode cX4_divide 64 = .ok (.iload 7, 2) := by decide +kernel
theorem dX4_divide_66 : decode cX4_divide 66 = .ok (.aload_n 3, 1) := by decide +kernel
theorem dX4_divide_67 : decode cX4_divide 67 = .ok (.iload 8, 2) := by decide +kernel
theorem dX4_divide_69 : decode cX4_divide 69 = .ok (.iaload, 1) := by decide +kernel
theorem dX4_divide_70 : decode cX4_divide 70 = .ok (.imul, 1) := by decide +kernel
theorem dX4_divide_71 : decode cX4_divide 71 = .ok (.isub, 1) := by decide +kernel
theorem dX4_divide_72 : decode cX4_divide 72 = .ok (.aload_n 0, 1) := by decide +kernel
theorem dX4_divide_73 : decode cX4_divide 73 = .ok (.getfield 9, 3) := by decide +kernel
theorem dX4_divide_76 : decode cX4_divide 76 = .ok (.invokestatic 56, 3) := by decide +kernel
theorem dX4_divide_79 : decode cX4_divide 79 = .ok (.iastore, 1) := by decide +kernel
theorem dX4_divide_80 : decode cX4_divide 80 = .ok (.iinc 8 1, 3) := by decide +kernel
theorem dX4_divide_83 : decode cX4_divide 83 = .ok (.goto (-43), 3) := by decide +kernel
theorem dX4_divide_86 : decode cX4_divide 86 = .ok (.aload_n 1, 1) := by decide +kernel
theorem dX4_divide_87 : decode cX4_divide 87 = .ok (.iload 6, 2) := by decide +kernel
theorem dX4_divide_89 : decode cX4_divide 89 = .ok (.iload 7, 2) := by decide +kernel
theorem dX4_divide_91 : decode cX4_divide 91 = .ok (.iastore, 1) := by decide +kernel
theorem dX4_divide_92 : decode cX4_divide 92 = .ok (.iinc 6 (-1), 3) := by decide +kernel
theorem dX4_divide_95 : decode cX4_divide 95 = .ok (.goto (-79), 3) := by decide +kernel
theorem dX4_divide_98 : decode cX4_divide 98 = .ok (.iconst 0, 1) := by decide +kernel
theorem dX4_divide_99 : decode cX4_divide 99 = .ok (.istore 6, 2) := by decide +kernel
theorem dX4_divide_101 : decode cX4_divide 101 = .ok (.iload 6, 2) := by decide +kernel
theorem dX4_divide_103 : decode cX4_divide 103 = .ok (.aload_n 1, 1) := by decide +kernel
theorem dX4_divide_104 : decode cX4_divide 104 = .ok (.arraylength, 1) := by decide +kernel
theorem dX4_divide_105 : decode cX4_divide 105 = .ok (.if_icmp .ge 33, 3) := by decide +kernel
theorem dX4_divide_108 : decode cX4_divide 108 = .ok (.aload_n 1, 1) := by decide +kernel
theorem dX4_divide_109 : decode cX4_divide 109 = .ok (.iload 6, 2) := by decide +kernel
theorem dX4_divide_111 : decode cX4_divide 111 = .ok (.iload 6, 2) := by decide +kernel
theorem dX4_divide_113 : decode cX4_divide 113 = .ok (.iload 4, 2) := by decide +kernel
theorem dX4_divide_115 : decode cX4_divide 115 = .ok (.iadd, 1) := by decide +kernel
theorem dX4_divide_116 : decode cX4_divide 116 = .ok (.iload_n 2, 1) := by decide +kernel
theorem dX4_divide_117 : decode cX4_divide 117 = .ok (.if_icmp .gt 13, 3) := by decide +kernel
theorem dX4_divide_120 : decode cX4_divide 120 = .ok (.aload_n 1, 1) := by decide +kernel
theorem dX4_divide_121 : decode cX4_divide 121 = .ok (.iload 6, 2) := by decide +kernel
theorem dX4_divide_123 : decode cX4_divide 123 = .ok (.iload 4, 2) := by decide +kernel
theorem dX4_divide_125 : decode cX4_divide 125 = .ok (.iadd, 1) := by decide +kernel
theorem dX4_divide_126 : decode cX4_divide 126 = .ok (.iaload, 1) := by decide +kernel
theorem dX4_divide_127 : decode cX4_divide 127 = .ok (.goto 4, 3) := by decide +kernel
theorem dX4_divide_130 : decode cX4_divide 130 = .ok (.iconst 0, 1) := by decide +kernel
theorem dX4_divide_131 : decode cX4_divide 131 = .ok (.iastore, 1) := by decide +kernel
theorem dX4_divide_132 : decode cX4_divide 132 = .ok (.iinc 6 1, 3) := by decide +kernel
theorem dX4_divide_135 : decode cX4_divide 135 = .ok (.goto (-34), 3) := by decide +kernel
theorem dX4_divide_138 : decode cX4_divide 138 = .ok (.return_, 1) := by decide +kernel
theorem dX5_init_0 : decode cX5_init 0 = .ok (.aload_n 0, 1) := by decide +kernel
theorem dX5_init_1 : decode cX5_init 1 = .ok (.invokespecial 3, 3) := by decide +kernel
theorem dX5_init_4 : decode cX5_init 4 = .ok (.aload_n 0, 1) := by decide +kernel
theorem dX5_init_5 : decode cX5_init 5 = .ok (.iload_n 1, 1) := by decide +kernel
theorem dX5_init_6 : decode cX5_init 6 = .ok (.putfield 9, 3) := by decide +kernel
theorem dX5_init_9 : decode cX5_init 9 = .ok (.aload_n 0, 1) := by decide +kernel
theorem dX5_init_10 : decode cX5_init 10 = .ok (.iload_n 2, 1) := by decide +kernel
theorem dX5_init_11 : decode cX5_init 11 = .ok (.iconst 0, 1) := by decide +kernel
theorem dX5_init_12 : decode cX5_init 12 = .ok (.invokestatic 15, 3) := by decide +kernel
theorem dX5_init_15 : decode cX5_init 15 = .ok (.newarray .long, 2) := by decide +kernel
theorem dX5_init_17 : decode cX5_init 17 = .ok (.putfield 21, 3) := by decide +kernel
theorem dX5_init_20 : decode cX5_init 20 = .ok (.return_, 1) := by decide +kernel
theorem dX5_holds_0 : decode cX5_holds 0 = .ok (.iload_n 1, 1) := by decide +kernel
theorem dX5_holds_1 : decode cX5_holds 1 = .ok (.ifCond .lt 26, 3) := by decide +kernel
theorem dX5_holds_4 : decode cX5_holds 4 = .ok (.iload_n 2, 1) := by decide +kernel
theorem dX5_holds_5 : decode cX5_holds 5 = .ok (.ifCond .lt 22, 3) := by decide +kernel
theorem dX5_holds_8 : decode cX5_holds 8 = .ok (.iload_n 1, 1) := by decide +kernel
theorem dX5_holds_9 : decode cX5_holds 9 = .ok (.i2l, 1) := by decide +kernel
theorem dX5_holds_10 : decode cX5_holds 10 = .ok (.iload_n 2, 1) := by decide +kernel
theorem dX5_holds_11 : decode cX5_holds 11 = .ok (.i2l, 1) := by decide +kernel
theorem dX5_holds_12 : decode cX5_holds 12 = .ok (.ladd, 1) := by decide +kernel
theorem dX5_holds_13 : decode cX5_holds 13 = .ok (.aload_n 0, 1) := by decide +kernel
theorem dX5_holds_14 : decode cX5_holds 14 = .ok (.getfield 21, 3) := by decide +kernel
theorem dX5_holds_17 : decode cX5_holds 17 = .ok (.arraylength, 1) := by decide +kernel
theorem dX5_holds_18 : decode cX5_holds 18 = .ok (.i2l, 1) := by decide +kernel
theorem dX5_holds_19 : decode cX5_holds 19 = .ok (.lcmp, 1) := by decide +kernel
theorem dX5_holds_20 : decode cX5_holds 20 = .ok (.ifCond .gt 7, 3) := by decide +kernel
theorem dX5_holds_23 : decode cX5_holds 23 = .ok (.iconst 1, 1) := by decide +kernel
theorem dX5_holds_24 : decode cX5_holds 24 = .ok (.goto 4, 3) := by decide +kernel
theorem dX5_holds_27 : decode cX5_holds 27 = .ok (.iconst 0, 1) := by decide +kernel
theorem dX5_holds_28 : decode cX5_holds 28 = .ok (.ireturn, 1) := by decide +kernel
theorem dX5_cut_0 : decode cX5_cut 0 = .ok (.aload_n 0, 1) := by decide +kernel
theorem dX5_cut_1 : decode cX5_cut 1 = .ok (.getfield 9, 3) := by decide +kernel
theorem dX5_cut_4 : decode cX5_cut 4 = .ok (.ifCond .ne 8, 3) := by decide +kernel
theorem dX5_cut_7 : decode cX5_cut 7 = .ok (.lload_n 1, 1) := by decide +kernel
theorem dX5_cut_8 : decode cX5_cut 8 = .ok (.l2i, 1) := by decide +kernel
theorem dX5_cut_9 : decode cX5_cut 9 = .ok (.i2b, 1) := by decide +kernel
theorem dX5_cut_10 : decode cX5_cut 10 = .ok (.i2l, 1) := by decide +kernel
theorem dX5_cut_11 : decode cX5_cut 11 = .ok (.lreturn, 1) := by decide +kernel
theorem dX5_cut_12 : decode cX5_cut 12 = .ok (.aload_n 0, 1) := by decide +kernel
theorem dX5_cut_13 : decode cX5_cut 13 = .ok (.getfield 9, 3) := by decide +kernel
theorem dX5_cut_16 : decode cX5_cut 16 = .ok (.iconst 1, 1) := by decide +kernel
theorem dX5_cut_17 : decode cX5_cut 17 = .ok (.if_icmp .ne 9, 3) := by decide +kernel
theorem dX5_cut_20 : decode cX5_cut 20 = .ok (.lload_n 1, 1) := by decide +kernel
theorem dX5_cut_21 : decode cX5_cut 21 = .ok (.l2i, 1) := by decide +kernel
theorem dX5_cut_22 : decode cX5_cut 22 = .ok (.i2l, 1) := by decide +kernel
theorem dX5_cut_23 : decode cX5_cut 23 = .ok (.goto 4, 3) := by decide +kernel
theorem dX5_cut_26 : decode cX5_cut 26 = .ok (.lload_n 1, 1) := by decide +kernel
theorem dX5_cut_27 : decode cX5_cut 27 = .ok (.lreturn, 1) := by decide +kernel
theorem dX6_init_0 : decode cX6_init 0 = .ok (.aload_n 0, 1) := by decide +kernel
theorem dX6_init_1 : decode cX6_init 1 = .ok (.invokespecial 1, 3) := by decide +kernel
theorem dX6_init_4 : decode cX6_init 4 = .ok (.aload_n 0, 1) := by decide +kernel
theorem dX6_init_5 : decode cX6_init 5 = .ok (.iload_n 1, 1) := by decide +kernel
theorem dX6_init_6 : decode cX6_init 6 = .ok (.invokestatic 7, 3) := by decide +kernel
theorem dX6_init_9 : decode cX6_init 9 = .ok (.ifCond .eq 7, 3) := by decide +kernel
theorem dX6_init_12 : decode cX6_init 12 = .ok (.iload_n 1, 1) := by decide +kernel
theorem dX6_init_13 : decode cX6_init 13 = .ok (.goto 5, 3) := by decide +kernel
theorem dX6_init_16 : decode cX6_init 16 = .ok (.bipush 101, 2) := by decide +kernel
theorem dX6_init_18 : decode cX6_init 18 = .ok (.putfield 13, 3) := by decide +kernel
theorem dX6_init_21 : decode cX6_init 21 = .ok (.aload_n 0, 1) := by decide +kernel
theorem dX6_init_22 : decode cX6_init 22 = .ok (.bipush 8, 2) := by decide +kernel
theorem dX6_init_24 : decode cX6_init 24 = .ok (.anewarray 17, 3) := by decide +kernel
theorem dX6_init_27 : decode cX6_init 27 = .ok (.putfield 19, 3) := by decide +kernel
theorem dX6_init_30 : decode cX6_init 30 = .ok (.aload_n 0, 1) := by decide +kernel
theorem dX6_init_31 : decode cX6_init 31 = .ok (.bipush 10, 2) := by decide +kernel
theorem dX6_init_33 : decode cX6_init 33 = .ok (.anewarray 23, 3) := by decide +kernel
theorem dX6_init_36 : decode cX6_init 36 = .ok (.putfield 25, 3) := by decide +kernel
theorem dX6_init_39 : decode cX6_init 39 = .ok (.aload_n 0, 1) := by decide +kernel
theorem dX6_init_40 : decode cX6_init 40 = .ok (.bipush 16, 2) := by decide +kernel
theorem dX6_init_42 : decode cX6_init 42 = .ok (.newarray .int, 2) := by decide +kernel
theorem dX6_init_44 : decode cX6_init 44 = .ok (.putfield 29, 3) := by decide +kernel
theorem dX6_init_47 : decode cX6_init 47 = .ok (.aload_n 0, 1) := by decide +kernel
theorem dX6_init_48 : decode cX6_init 48 = .ok (.new 33, 3) := by decide +kernel
theorem dX6_init_51 : decode cX6_init 51 = .ok (.dup, 1) := by decide +kernel
theorem dX6_init_52 : decode cX6_init 52 = .ok (.aload_n 0, 1) := by decide +kernel
theorem dX6_init_53 : decode cX6_init 53 = .ok (.getfield 13, 3) := by decide +kernel
theorem dX6_init_56 : decode cX6_init 56 = .ok (.invokespecial 35, 3) := by decide +kernel
theorem dX6_init_59 : decode cX6_init 59 = .ok (.putfield 38, 3) := by decide +kernel
theorem dX6_init_62 : decode cX6_init 62 = .ok (.aload_n 0, 1) := by decide +kernel
theorem dX6_init_63 : decode cX6_init 63 = .ok (.new 33, 3) := by decide +kernel
theorem dX6_init_66 : decode cX6_init 66 = .ok (.dup, 1) := by decide +kernel
theorem dX6_init_67 : decode cX6_init 67 = .ok (.aload_n 0, 1) := by decide +kernel
theorem dX6_init_68 : decode cX6_init 68 = .ok (.getfield 13, 3) := by decide +kernel
theorem dX6_init_71 : decode cX6_init 71 = .ok (.invokespecial 35, 3) := by decide +kernel
theorem dX6_init_74 : decode cX6_init 74 = .ok (.putfield 42, 3) := by decide +kernel
theorem dX6_init_77 : decode cX6_init 77 = .ok (.aload_n 0, 1) := by decide +kernel
theorem dX6_init_78 : decode cX6_init 78 = .ok (.new 45, 3) := by decide +kernel
theorem dX6_init_81 : decode cX6_init 81 = .ok (.dup, 1) := by decide +kernel
theorem dX6_init_82 : decode cX6_init 82 = .ok (.aload_n 0, 1) := by decide +kernel
theorem dX6_init_83 : decode cX6_init 83 = .ok (.getfield 13, 3) := by decide +kernel
theorem dX6_init_86 : decode cX6_init 86 = .ok (.invokespecial 47, 3) := by decide +kernel
theorem dX6_init_89 : decode cX6_init 89 = .ok (.putfield 48, 3) := by decide +kernel
theorem dX6_init_92 : decode cX6_init 92 = .ok (.aload_n 0, 1) := by decide +kernel
theorem dX6_init_93 : decode cX6_init 93 = .ok (.new 52, 3) := by decide +kernel
theorem dX6_init_96 : decode cX6_init 96 = .ok (.dup, 1) := by decide +kernel
theorem dX6_init_97 : decode cX6_init 97 = .ok (.invokespecial 54, 3) := by decide +kernel
theorem dX6_init_100 : decode cX6_init 100 = .ok (.putfield 55, 3) := by decide +kernel
theorem dX6_init_103 : decode cX6_init 103 = .ok (.aload_n 0, 1) := by decide +kernel
theorem dX6_init_104 : decode cX6_init 104 = .ok (.iconst 0, 1) := by decide +kernel
theorem dX6_init_105 : decode cX6_init 105 = .ok (.putfield 59, 3) := by decide +kernel
theorem dX6_init_108 : decode cX6_init 108 = .ok (.aload_n 0, 1) := by decide +kernel
theorem dX6_init_109 : decode cX6_init 109 = .ok (.iconst 0, 1) := by decide +kernel
theorem dX6_init_110 : decode cX6_init 110 = .ok (.putfield 62, 3) := by decide +kernel
theorem dX6_init_113 : decode cX6_init 113 = .ok (.return_, 1) := by decide +kernel
theorem dX6_sheet_0 : decode cX6_sheet 0 = .ok (.iload_n 1, 1) := by decide +kernel
theorem dX6_sheet_1 : decode cX6_sheet 1 = .ok (.invokestatic 65, 3) := by decide +kernel
theorem dX6_sheet_4 : decode cX6_sheet 4 = .ok (.ifCond .eq 18, 3) := by decide +kernel
theorem dX6_sheet_7 : decode cX6_sheet 7 = .ok (.iload_n 2, 1) := by decide +kernel
theorem dX6_sheet_8 : decode cX6_sheet 8 = .ok (.ifCond .lt 14, 3) := by decide +kernel
theorem dX6_sheet_11 : decode cX6_sheet 11 = .ok (.iload_n 2, 1) := by decide +kernel
theorem dX6_sheet_12 : decode cX6_sheet 12 = .ok (.iconst 2, 1) := by decide +kernel
theorem dX6_sheet_13 : decode cX6_sheet 13 = .ok (.if_icmp .gt 9, 3) := by decide +kernel
theorem dX6_sheet_16 : decode cX6_sheet 16 = .ok (.iload_n 3, 1) := by decide +kernel
theorem dX6_sheet_17 : decode cX6_sheet 17 = .ok (.bipush 40, 2) := by decide +kernel
theorem dX6_sheet_19 : decode cX6_sheet 19 = .ok (.if_icmp .le 6, 3) := by decide +kernel
theorem dX6_sheet_22 : decode cX6_sheet 22 = .ok (.ldc 68, 2) := by decide +kernel
theorem dX6_sheet_24 : decode cX6_sheet 24 = .ok (.ireturn, 1) := by decide +kernel
theorem dX6_sheet_25 : decode cX6_sheet 25 = .ok (.iload_n 3, 1) := by decide +kernel
theorem dX6_sheet_26 : decode cX6_sheet 26 = .ok (.ifCond .ge 9, 3) := by decide +kernel
theorem dX6_sheet_29 : decode cX6_sheet 29 = .ok (.aload_n 0, 1) := by decide +kernel
theorem dX6_sheet_30 : decode cX6_sheet 30 = .ok (.iconst 4, 1) := by decide +kernel
theorem dX6_sheet_31 : decode cX6_sheet 31 = .ok (.invokevirtual 69, 3) := by decide +kernel
theorem dX6_sheet_34 : decode cX6_sheet 34 = .ok (.ireturn, 1) := by decide +kernel
theorem dX6_sheet_35 : decode cX6_sheet 35 = .ok (.aload_n 0, 1) := by decide +kernel
theorem dX6_sheet_36 : decode cX6_sheet 36 = .ok (.getfield 19, 3) := by decide +kernel
theorem dX6_sheet_39 : decode cX6_sheet 39 = .ok (.iload_n 1, 1) := by decide +kernel
theorem dX6_sheet_40 : decode cX6_sheet 40 = .ok (.new 17, 3) := by decide +kernel
theorem dX6_sheet_43 : decode cX6_sheet 43 = .ok (.dup, 1) := by decide +kernel
theorem dX6_sheet_44 : decode cX6_sheet 44 = .ok (.iload_n 2, 1) := by decide +kernel
theorem dX6_sheet_45 : decode cX6_sheet 45 = .ok (.iload_n 3, 1) := by decide +kernel
theorem dX6_sheet_46 : decode cX6_sheet 46 = .ok (.invokespecial 73, 3) := by decide +kernel
theorem dX6_sheet_49 : decode cX6_sheet 49 = .ok (.aastore, 1) := by decide +kernel
theorem dX6_sheet_50 : decode cX6_sheet 50 = .ok (.aload_n 0, 1) := by decide +kernel
theorem dX6_sheet_51 : decode cX6_sheet 51 = .ok (.iload_n 3, 1) := by decide +kernel
theorem dX6_sheet_52 : decode cX6_sheet 52 = .ok (.invokevirtual 76, 3) := by decide +kernel
theorem dX6_sheet_55 : decode cX6_sheet 55 = .ok (.ireturn, 1) := by decide +kernel
theorem dX6_set_0 : decode cX6_set 0 = .ok (.iload_n 1, 1) := by decide +kernel
theorem dX6_set_1 : decode cX6_set 1 = .ok (.invokestatic 65, 3) := by decide +kernel
theorem dX6_set_4 : decode cX6_set 4 = .ok (.ifCond .ne 7, 3) := by decide +kernel
theorem dX6_set_7 : decode cX6_set 7 = .ok (.ldc2_w 79, 3) := by decide +kernel
theorem dX6_set_10 : decode cX6_set 10 = .ok (.lreturn, 1) := by decide +kernel
theorem dX6_set_11 : decode cX6_set 11 = .ok (.aload_n 0, 1) := by decide +kernel
theorem dX6_set_12 : decode cX6_set 12 = .ok (.getfield 19, 3) := by decide +kernel
theorem dX6_set_15 : decode cX6_set 15 = .ok (.iload_n 1, 1) := by decide +kernel
theorem dX6_set_16 : decode cX6_set 16 = .ok (.aaload, 1) := by decide +kernel
theorem dX6_set_17 : decode cX6_set 17 = .ok (.astore 5, 2) := by decide +kernel
theorem dX6_set_19 : decode cX6_set 19 = .ok (.aload 5, 2) := by decide +kernel
theorem dX6_set_21 : decode cX6_set 21 = .ok (.ifnonnull 10, 3) := by decide +kernel
theorem dX6_set_24 : decode cX6_set 24 = .ok (.aload_n 0, 1) := by decide +kernel
theorem dX6_set_25 : decode cX6_set 25 = .ok (.iconst 1, 1) := by decide +kernel
theorem dX6_set_26 : decode cX6_set 26 = .ok (.invokevirtual 69, 3) := by decide +kernel
theorem dX6_set_29 : decode cX6_set 29 = .ok (.i2l, 1) := by decide +kernel
theorem dX6_set_30 : decode cX6_set 30 = .ok (.lreturn, 1) := by decide +kernel
theorem dX6_set_31 : decode cX6_set 31 = .ok (.aload 5, 2) := by decide +kernel
theorem dX6_set_33 : decode cX6_set 33 = .ok (.iload_n 2, 1) := by decide +kernel
theorem dX6_set_34 : decode cX6_set 34 = .ok (.iconst 1, 1) := by decide +kernel
theorem dX6_set_35 : decode cX6_set 35 = .ok (.invokevirtual 81, 3) := by decide +kernel
theorem dX6_set_38 : decode cX6_set 38 = .ok (.ifCond .ne 10, 3) := by decide +kernel
theorem dX6_set_41 : decode cX6_set 41 = .ok (.aload_n 0, 1) := by decide +kernel
theorem dX6_set_42 : decode cX6_set 42 = .ok (.iconst 2, 1) := by decide +kernel
theorem dX6_set_43 : decode cX6_set 43 = .ok (.invokevirtual 69, 3) := by decide +kernel
theorem dX6_set_46 : decode cX6_set 46 = .ok (.i2l, 1) := by decide +kernel
theorem dX6_set_47 : decode cX6_set 47 = .ok (.lreturn, 1) := by decide +kernel
theorem dX6_set_48 : decode cX6_set 48 = .ok (.aload 5, 2) := by decide +kernel
theorem dX6_set_50 : decode cX6_set 50 = .ok (.getfield 85, 3) := by decide +kernel
theorem dX6_set_53 : decode cX6_set 53 = .ok (.iload_n 2, 1) := by decide +kernel
theorem dX6_set_54 : decode cX6_set 54 = .ok (.aload 5, 2) := by decide +kernel
theorem dX6_set_56 : decode cX6_set 56 = .ok (.lload_n 3, 1) := by decide +kernel
theorem dX6_set_57 : decode cX6_set 57 = .ok (.invokevirtual 89, 3) := by decide +kernel
theorem dX6_set_60 : decode cX6_set 60 = .ok (.lastore, 1) := by decide +kernel
theorem dX6_set_61 : decode cX6_set 61 = .ok (.aload_n 0, 1) := by decide +kernel
theorem dX6_set_62 : decode cX6_set 62 = .ok (.iconst 0, 1) := by decide +kernel
theorem dX6_set_63 : decode cX6_set 63 = .ok (.putfield 62, 3) := by decide +kernel
theorem dX6_set_66 : decode cX6_set 66 = .ok (.aload 5, 2) := by decide +kernel
theorem dX6_set_68 : decode cX6_set 68 = .ok (.getfield 85, 3) := by decide +kernel
theorem dX6_set_71 : decode cX6_set 71 = .ok (.iload_n 2, 1) := by decide +kernel
theorem dX6_set_72 : decode cX6_set 72 = .ok (.laload, 1) := by decide +kernel
theorem dX6_set_73 : decode cX6_set 73 = .ok (.lreturn, 1) := by decide +kernel
theorem dX6_copy_0 : decode cX6_copy 0 = .ok (.iload_n 1, 1) := by decide +kernel
theorem dX6_copy_1 : decode cX6_copy 1 = .ok (.invokestatic 65, 3) := by decide +kernel
theorem dX6_copy_4 : decode cX6_copy 4 = .ok (.ifCond .eq 10, 3) := by decide +kernel
theorem dX6_copy_7 : decode cX6_copy 7 = .ok (.iload_n 3, 1) := by decide +kernel
theorem dX6_copy_8 : decode cX6_copy 8 = .ok (.invokestatic 65, 3) := by decide +kernel
theorem dX6_copy_11 : decode cX6_copy 11 = .ok (.ifCond .ne 6, 3) := by decide +kernel
theorem dX6_copy_14 : decode cX6_copy 14 = .ok (.ldc 68, 2) := by decide +kernel
theorem dX6_copy_16 : decode cX6_copy 16 = .ok (.ireturn, 1) := by decide +kernel
theorem dX6_copy_17 : decode cX6_copy 17 = .ok (.aload_n 0, 1) := by decide +kernel
theorem dX6_copy_18 : decode cX6_copy 18 = .ok (.getfield 19, 3) := by decide +kernel
theorem dX6_copy_21 : decode cX6_copy 21 = .ok (.iload_n 1, 1) := by decide +kernel
theorem dX6_copy_22 : decode cX6_copy 22 = .ok (.aaload, 1) := by decide +kernel
theorem dX6_copy_23 : decode cX6_copy 23 = .ok (.astore 6, 2) := by decide +kernel
theorem dX6_copy_25 : decode cX6_copy 25 = .ok (.aload_n 0, 1) := by decide +kernel
theorem dX6_copy_26 : decode cX6_copy 26 = .ok (.getfield 19, 3) := by decide +kernel
theorem dX6_copy_29 : decode cX6_copy 29 = .ok (.iload_n 3, 1) := by decide +kernel
theorem dX6_copy_30 : decode cX6_copy 30 = .ok (.aaload, 1) := by decide +kernel
theorem dX6_copy_31 : decode cX6_copy 31 = .ok (.astore 7, 2) := by decide +kernel
theorem dX6_copy_33 : decode cX6_copy 33 = .ok (.aload 6, 2) := by decide +kernel
theorem dX6_copy_35 : decode cX6_copy 35 = .ok (.ifnull 8, 3) := by decide +kernel
theorem dX6_copy_38 : decode cX6_copy 38 = .ok (.aload 7, 2) := by decide +kernel
theorem dX6_copy_40 : decode cX6_copy 40 = .ok (.ifnonnull 9, 3) := by decide +kernel
theorem dX6_copy_43 : decode cX6_copy 43 = .ok (.aload_n 0, 1) := by decide +kernel
theorem dX6_copy_44 : decode cX6_copy 44 = .ok (.iconst 1, 1) := by decide +kernel
theorem dX6_copy_45 : decode cX6_copy 45 = .ok (.invokevirtual 69, 3) := by decide +kernel
theorem dX6_copy_48 : decode cX6_copy 48 = .ok (.ireturn, 1) := by decide +kernel
theorem dX6_copy_49 : decode cX6_copy 49 = .ok (.aload 6, 2) := by decide +kernel
theorem dX6_copy_51 : decode cX6_copy 51 = .ok (.getfield 93, 3) := by decide +kernel
theorem dX6_copy_54 : decode cX6_copy 54 = .ok (.aload 7, 2) := by decide +kernel
theorem dX6_copy_56 : decode cX6_copy 56 = .ok (.getfield 93, 3) := by decide +kernel
theorem dX6_copy_59 : decode cX6_copy 59 = .ok (.if_icmp .eq 9, 3) := by decide +kernel
theorem dX6_copy_62 : decode cX6_copy 62 = .ok (.aload_n 0, 1) := by decide +kernel
theorem dX6_copy_63 : decode cX6_copy 63 = .ok (.iconst 5, 1) := by decide +kernel
theorem dX6_copy_64 : decode cX6_copy 64 = .ok (.invokevirtual 69, 3) := by decide +kernel
theorem dX6_copy_67 : decode cX6_copy 67 = .ok (.ireturn, 1) := by decide +kernel
theorem dX6_copy_68 : decode cX6_copy 68 = .ok (.aload 6, 2) := by decide +kernel
theorem dX6_copy_70 : decode cX6_copy 70 = .ok (.iload_n 2, 1) := by decide +kernel
theorem dX6_copy_71 : decode cX6_copy 71 = .ok (.iload 5, 2) := by decide +kernel
theorem dX6_copy_73 : decode cX6_copy 73 = .ok (.invokevirtual 81, 3) := by decide +kernel
theorem dX6_copy_76 : decode cX6_copy 76 = .ok (.ifCond .eq 15, 3) := by decide +kernel
theorem dX6_copy_79 : decode cX6_copy 79 = .ok (.aload 7, 2) := by decide +kernel
theorem dX6_copy_81 : decode cX6_copy 81 = .ok (.iload 4, 2) := by decide +kernel
theorem dX6_copy_83 : decode cX6_copy 83 = .ok (.iload 5, 2) := by decide +kernel
theorem dX6_copy_85 : decode cX6_copy 85 = .ok (.invokevirtual 81, 3) := by decide +kernel
theorem dX6_copy_88 : decode cX6_copy 88 = .ok (.ifCond .ne 9, 3) := by decide +kernel
theorem dX6_copy_91 : decode cX6_copy 91 = .ok (.aload_n 0, 1) := by decide +kernel
theorem dX6_copy_92 : decode cX6_copy 92 = .ok (.iconst 2, 1) := by decide +kernel
theorem dX6_copy_93 : decode cX6_copy 93 = .ok (.invokevirtual 69, 3) := by decide +kernel
theorem dX6_copy_96 : decode cX6_copy 96 = .ok (.ireturn, 1) := by decide +kernel
theorem dX6_copy_97 : decode cX6_copy 97 = .ok (.aload 6, 2) := by decide +kernel
theorem dX6_copy_99 : decode cX6_copy 99 = .ok (.getfield 85, 3) := by decide +kernel
theorem dX6_copy_102 : decode cX6_copy 102 = .ok (.iload_n 2, 1) := by decide +kernel
theorem dX6_copy_103 : decode cX6_copy 103 = .ok (.aload 7, 2) := by decide +kernel
theorem dX6_copy_105 : decode cX6_copy 105 = .ok (.getfield 85, 3) := by decide +kernel
theorem dX6_copy_108 : decode cX6_copy 108 = .ok (.iload 4, 2) := by decide +kernel
theorem dX6_copy_110 : decode cX6_copy 110 = .ok (.iload 5, 2) := by decide +kernel
theorem dX6_copy_112 : decode cX6_copy 112 = .ok (.invokestatic 96, 3) := by decide +kernel
theorem dX6_copy_115 : decode cX6_copy 115 = .ok (.aload_n 0, 1) := by decide +kernel
theorem dX6_copy_116 : decode cX6_copy 116 = .ok (.iload 5, 2) := by decide +kernel
theorem dX6_copy_118 : decode cX6_copy 118 = .ok (.invokevirtual 76, 3) := by decide +kernel
theorem dX6_copy_121 : decode cX6_copy 121 = .ok (.ireturn, 1) := by decide +kernel
theorem dX6_drop_0 : decode cX6_drop 0 = .ok (.iload_n 1, 1) := by decide +kernel
theorem dX6_drop_1 : decode cX6_drop 1 = .ok (.invokestatic 65, 3) := by decide +kernel
theorem dX6_drop_4 : decode cX6_drop 4 = .ok (.ifCond .ne 6, 3) := by decide +kernel
theorem dX6_drop_7 : decode cX6_drop 7 = .ok (.ldc 68, 2) := by decide +kernel
theorem dX6_drop_9 : decode cX6_drop 9 = .ok (.ireturn, 1) := by decide +kernel
theorem dX6_drop_10 : decode cX6_drop 10 = .ok (.aload_n 0, 1) := by decide +kernel
theorem dX6_drop_11 : decode cX6_drop 11 = .ok (.getfield 19, 3) := by decide +kernel
theorem dX6_drop_14 : decode cX6_drop 14 = .ok (.iload_n 1, 1) := by decide +kernel
theorem dX6_drop_15 : decode cX6_drop 15 = .ok (.aaload, 1) := by decide +kernel
theorem dX6_drop_16 : decode cX6_drop 16 = .ok (.astore_n 2, 1) := by decide +kernel
theorem dX6_drop_17 : decode cX6_drop 17 = .ok (.aload_n 2, 1) := by decide +kernel
theorem dX6_drop_18 : decode cX6_drop 18 = .ok (.ifnonnull 9, 3) := by decide +kernel
theorem dX6_drop_21 : decode cX6_drop 21 = .ok (.aload_n 0, 1) := by decide +kernel
theorem dX6_drop_22 : decode cX6_drop 22 = .ok (.iconst 1, 1) := by decide +kernel
theorem dX6_drop_23 : decode cX6_drop 23 = .ok (.invokevirtual 69, 3) := by decide +kernel
theorem dX6_drop_26 : decode cX6_drop 26 = .ok (.ireturn, 1) := by decide +kernel
theorem dX6_drop_27 : decode cX6_drop 27 = .ok (.aload_n 0, 1) := by decide +kernel
theorem dX6_drop_28 : decode cX6_drop 28 = .ok (.getfield 19, 3) := by decide +kernel
theorem dX6_drop_31 : decode cX6_drop 31 = .ok (.iload_n 1, 1) := by decide +kernel
theorem dX6_drop_32 : decode cX6_drop 32 = .ok (.aconst_null, 1) := by decide +kernel
theorem dX6_drop_33 : decode cX6_drop 33 = .ok (.aastore, 1) := by decide +kernel
theorem dX6_drop_34 : decode cX6_drop 34 = .ok (.aload_n 0, 1) := by decide +kernel
theorem dX6_drop_35 : decode cX6_drop 35 = .ok (.aload_n 2, 1) := by decide +kernel
theorem dX6_drop_36 : decode cX6_drop 36 = .ok (.getfield 85, 3) := by decide +kernel
theorem dX6_drop_39 : decode cX6_drop 39 = .ok (.arraylength, 1) := by decide +kernel
theorem dX6_drop_40 : decode cX6_drop 40 = .ok (.invokevirtual 76, 3) := by decide +kernel
theorem dX6_drop_43 : decode cX6_drop 43 = .ok (.ireturn, 1) := by decide +kernel
theorem dX6_map_0 : decode cX6_map 0 = .ok (.iload_n 1, 1) := by decide +kernel
theorem dX6_map_1 : decode cX6_map 1 = .ok (.invokestatic 102, 3) := by decide +kernel
theorem dX6_map_4 : decode cX6_map 4 = .ok (.ifCond .eq 22, 3) := by decide +kernel
theorem dX6_map_7 : decode cX6_map 7 = .ok (.iload_n 2, 1) := by decide +kernel
theorem dX6_map_8 : decode cX6_map 8 = .ok (.invokestatic 65, 3) := by decide +kernel
theorem dX6_map_11 : decode cX6_map 11 = .ok (.ifCond .eq 15, 3) := by decide +kernel
theorem dX6_map_14 : decode cX6_map 14 = .ok (.iload 4, 2) := by decide +kernel
theorem dX6_map_16 : decode cX6_map 16 = .ok (.iconst 1, 1) := by decide +kernel
theorem dX6_map_17 : decode cX6_map 17 = .ok (.if_icmp .lt 9, 3) := by decide +kernel
theorem dX6_map_20 : decode cX6_map 20 = .ok (.iload 4, 2) := by decide +kernel
theorem dX6_map_22 : decode cX6_map 22 = .ok (.iconst 5, 1) := by decide +kernel
theorem dX6_map_23 : decode cX6_map 23 = .ok (.if_icmp .le 6, 3) := by decide +kernel
theorem dX6_map_26 : decode cX6_map 26 = .ok (.ldc 68, 2) := by decide +kernel
theorem dX6_map_28 : decode cX6_map 28 = .ok (.ireturn, 1) := by decide +kernel
theorem dX6_map_29 : decode cX6_map 29 = .ok (.aload_n 0, 1) := by decide +kernel
theorem dX6_map_30 : decode cX6_map 30 = .ok (.getfield 19, 3) := by decide +kernel
theorem dX6_map_33 : decode cX6_map 33 = .ok (.iload_n 2, 1) := by decide +kernel
theorem dX6_map_34 : decode cX6_map 34 = .ok (.aaload, 1) := by decide +kernel
theorem dX6_map_35 : decode cX6_map 35 = .ok (.astore 5, 2) := by decide +kernel
theorem dX6_map_37 : decode cX6_map 37 = .ok (.aload 5, 2) := by decide +kernel
theorem dX6_map_39 : decode cX6_map 39 = .ok (.ifnonnull 9, 3) := by decide +kernel
theorem dX6_map_42 : decode cX6_map 42 = .ok (.aload_n 0, 1) := by decide +kernel
theorem dX6_map_43 : decode cX6_map 43 = .ok (.iconst 1, 1) := by decide +kernel
theorem dX6_map_44 : decode cX6_map 44 = .ok (.invokevirtual 69, 3) := by decide +kernel
theorem dX6_map_47 : decode cX6_map 47 = .ok (.ireturn, 1) := by decide +kernel
theorem dX6_map_48 : decode cX6_map 48 = .ok (.aload 5, 2) := by decide +kernel
theorem dX6_map_50 : decode cX6_map 50 = .ok (.iload_n 3, 1) := by decide +kernel
theorem dX6_map_51 : decode cX6_map 51 = .ok (.iload 4, 2) := by decide +kernel
theorem dX6_map_53 : decode cX6_map 53 = .ok (.invokevirtual 81, 3) := by decide +kernel
theorem dX6_map_56 : decode cX6_map 56 = .ok (.ifCond .ne 9, 3) := by decide +kernel
theorem dX6_map_59 : decode cX6_map 59 = .ok (.aload_n 0, 1) := by decide +kernel
theorem dX6_map_60 : decode cX6_map 60 = .ok (.iconst 2, 1) := by decide +kernel
theorem dX6_map_61 : decode cX6_map 61 = .ok (.invokevirtual 69, 3) := by decide +kernel
theorem dX6_map_64 : decode cX6_map 64 = .ok (.ireturn, 1) := by decide +kernel
theorem dX6_map_65 : decode cX6_map 65 = .ok (.iconst 5, 1) := by decide +kernel
theorem dX6_map_66 : decode cX6_map 66 = .ok (.newarray .int, 2) := by decide +kernel
theorem dX6_map_68 : decode cX6_map 68 = .ok (.astore 6, 2) := by decide +kernel
theorem dX6_map_70 : decode cX6_map 70 = .ok (.iconst 0, 1) := by decide +kernel
theorem dX6_map_71 : decode cX6_map 71 = .ok (.istore 7, 2) := by decide +kernel
theorem dX6_map_73 : decode cX6_map 73 = .ok (.iload 7, 2) := by decide +kernel
theorem dX6_map_75 : decode cX6_map 75 = .ok (.iload 4, 2) := by decide +kernel
theorem dX6_map_77 : decode cX6_map 77 = .ok (.if_icmp .ge 33, 3) := by decide +kernel
theorem dX6_map_80 : decode cX6_map 80 = .ok (.aload 6, 2) := by decide +kernel
theorem dX6_map_82 : decode cX6_map 82 = .ok (.iload 7, 2) := by decide +kernel
theorem dX6_map_84 : decode cX6_map 84 = .ok (.aload 5, 2) := by decide +kernel
theorem dX6_map_86 : decode cX6_map 86 = .ok (.getfield 85, 3) := by decide +kernel
theorem dX6_map_89 : decode cX6_map 89 = .ok (.iload_n 3, 1) := by decide +kernel
theorem dX6_map_90 : decode cX6_map 90 = .ok (.iload 7, 2) := by decide +kernel
theorem dX6_map_92 : decode cX6_map 92 = .ok (.iadd, 1) := by decide +kernel
theorem dX6_map_93 : decode cX6_map 93 = .ok (.laload, 1) := by decide +kernel
theorem dX6_map_94 : decode cX6_map 94 = .ok (.aload_n 0, 1) := by decide +kernel
theorem dX6_map_95 : decode cX6_map 95 = .ok (.getfield 13, 3) := by decide +kernel
theorem dX6_map_98 : decode cX6_map 98 = .ok (.i2l, 1) := by decide +kernel
theorem dX6_map_99 : decode cX6_map 99 = .ok (.invokestatic 105, 3) := by decide +kernel
theorem dX6_map_102 : decode cX6_map 102 = .ok (.l2i, 1) := by decide +kernel
theorem dX6_map_103 : decode cX6_map 103 = .ok (.iastore, 1) := by decide +kernel
theorem dX6_map_104 : decode cX6_map 104 = .ok (.iinc 7 1, 3) := by decide +kernel
theorem dX6_map_107 : decode cX6_map 107 = .ok (.goto (-34), 3) := by decide +kernel
theorem dX6_map_110 : decode cX6_map 110 = .ok (.aload_n 0, 1) := by decide +kernel
theorem dX6_map_111 : decode cX6_map 111 = .ok (.iload_n 1, 1) := by decide +kernel
theorem dX6_map_112 : decode cX6_map 112 = .ok (.aload 6, 2) := by decide +kernel
theorem dX6_map_114 : decode cX6_map 114 = .ok (.invokevirtual 111, 3) := by decide +kernel
theorem dX6_map_117 : decode cX6_map 117 = .ok (.ireturn, 1) := by decide +kernel
theorem dX6_plain_0 : decode cX6_plain 0 = .ok (.iload_n 1, 1) := by decide +kernel
theorem dX6_plain_1 : decode cX6_plain 1 = .ok (.invokestatic 102, 3) := by decide +kernel
theorem dX6_plain_4 : decode cX6_plain 4 = .ok (.ifCond .ne 6, 3) := by decide +kernel
theorem dX6_plain_7 : decode cX6_plain 7 = .ok (.ldc 68, 2) := by decide +kernel
theorem dX6_plain_9 : decode cX6_plain 9 = .ok (.ireturn, 1) := by decide +kernel
theorem dX6_plain_10 : decode cX6_plain 10 = .ok (.iconst 5, 1) := by decide +kernel
theorem dX6_plain_11 : decode cX6_plain 11 = .ok (.newarray .int, 2) := by decide +kernel
theorem dX6_plain_13 : decode cX6_plain 13 = .ok (.astore_n 3, 1) := by decide +kernel
theorem dX6_plain_14 : decode cX6_plain 14 = .ok (.aload_n 3, 1) := by decide +kernel
theorem dX6_plain_15 : decode cX6_plain 15 = .ok (.iconst 0, 1) := by decide +kernel
theorem dX6_plain_16 : decode cX6_plain 16 = .ok (.iload_n 2, 1) := by decide +kernel
theorem dX6_plain_17 : decode cX6_plain 17 = .ok (.aload_n 0, 1) := by decide +kernel
theorem dX6_plain_18 : decode cX6_plain 18 = .ok (.getfield 13, 3) := by decide +kernel
theorem dX6_plain_21 : decode cX6_plain 21 = .ok (.invokestatic 115, 3) := by decide +kernel
theorem dX6_plain_24 : decode cX6_plain 24 = .ok (.iastore, 1) := by decide +kernel
theorem dX6_plain_25 : decode cX6_plain 25 = .ok (.aload_n 3, 1) := by decide +kernel
theorem dX6_plain_26 : decode cX6_plain 26 = .ok (.iconst 2, 1) := by decide +kernel
theorem dX6_plain_27 : decode cX6_plain 27 = .ok (.iconst 1, 1) := by decide +kernel
theorem dX6_plain_28 : decode cX6_plain 28 = .ok (.iastore, 1) := by decide +kernel
theorem dX6_plain_29 : decode cX6_plain 29 = .ok (.aload_n 0, 1) := by decide +kernel
theorem dX6_plain_30 : decode cX6_plain 30 = .ok (.iload_n 1, 1) := by decide +kernel
theorem dX6_plain_31 : decode cX6_plain 31 = .ok (.aload_n 3, 1) := by decide +kernel
theorem dX6_plain_32 : decode cX6_plain 32 = .ok (.invokevirtual 111, 3) := by decide +kernel
theorem dX6_plain_35 : decode cX6_plain 35 = .ok (.ireturn, 1) := by decide +kernel
theorem dX6_turn_0 : decode cX6_turn 0 = .ok (.iload_n 3, 1) := by decide +kernel
theorem dX6_turn_1 : decode cX6_turn 1 = .ok (.aload_n 0, 1) := by decide +kernel
theorem dX6_turn_2 : decode cX6_turn 2 = .ok (.getfield 13, 3) := by decide +kernel
theorem dX6_turn_5 : decode cX6_turn 5 = .ok (.invokestatic 115, 3) := by decide +kernel
theorem dX6_turn_8 : decode cX6_turn 8 = .ok (.istore 5, 2) := by decide +kernel
theorem dX6_turn_10 : decode cX6_turn 10 = .ok (.iload_n 1, 1) := by decide +kernel
theorem dX6_turn_11 : decode cX6_turn 11 = .ok (.invokestatic 102, 3) := by decide +kernel
theorem dX6_turn_14 : decode cX6_turn 14 = .ok (.ifCond .eq 15, 3) := by decide +kernel
theorem dX6_turn_17 : decode cX6_turn 17 = .ok (.iload_n 2, 1) := by decide +kernel
theorem dX6_turn_18 : decode cX6_turn 18 = .ok (.invokestatic 102, 3) := by decide +kernel
theorem dX6_turn_21 : decode cX6_turn 21 = .ok (.ifCond .eq 8, 3) := by decide +kernel
theorem dX6_turn_24 : decode cX6_turn 24 = .ok (.iload 5, 2) := by decide +kernel
theorem dX6_turn_26 : decode cX6_turn 26 = .ok (.ifCond .ne 6, 3) := by decide +kernel
theorem dX6_turn_29 : decode cX6_turn 29 = .ok (.ldc 68, 2) := by decide +kernel
theorem dX6_turn_31 : decode cX6_turn 31 = .ok (.ireturn, 1) := by decide +kernel
theorem dX6_turn_32 : decode cX6_turn 32 = .ok (.aload_n 0, 1) := by decide +kernel
theorem dX6_turn_33 : decode cX6_turn 33 = .ok (.getfield 25, 3) := by decide +kernel
theorem dX6_turn_36 : decode cX6_turn 36 = .ok (.iload_n 2, 1) := by decide +kernel
theorem dX6_turn_37 : decode cX6_turn 37 = .ok (.aaload, 1) := by decide +kernel
theorem dX6_turn_38 : decode cX6_turn 38 = .ok (.astore 6, 2) := by decide +kernel
theorem dX6_turn_40 : decode cX6_turn 40 = .ok (.aload 6, 2) := by decide +kernel
theorem dX6_turn_42 : decode cX6_turn 42 = .ok (.ifnonnull 9, 3) := by decide +kernel
theorem dX6_turn_45 : decode cX6_turn 45 = .ok (.aload_n 0, 1) := by decide +kernel
theorem dX6_turn_46 : decode cX6_turn 46 = .ok (.iconst 1, 1) := by decide +kernel
theorem dX6_turn_47 : decode cX6_turn 47 = .ok (.invokevirtual 69, 3) := by decide +kernel
theorem dX6_turn_50 : decode cX6_turn 50 = .ok (.ireturn, 1) := by decide +kernel
theorem dX6_turn_51 : decode cX6_turn 51 = .ok (.aload_n 0, 1) := by decide +kernel
theorem dX6_turn_52 : decode cX6_turn 52 = .ok (.iload_n 1, 1) := by decide +kernel
theorem dX6_turn_53 : decode cX6_turn 53 = .ok (.aload 6, 2) := by decide +kernel
theorem dX6_turn_55 : decode cX6_turn 55 = .ok (.iload 5, 2) := by decide +kernel
theorem dX6_turn_57 : decode cX6_turn 57 = .ok (.iload 4, 2) := by decide +kernel
theorem dX6_turn_59 : decode cX6_turn 59 = .ok (.aload_n 0, 1) := by decide +kernel
theorem dX6_turn_60 : decode cX6_turn 60 = .ok (.getfield 13, 3) := by decide +kernel
theorem dX6_turn_63 : decode cX6_turn 63 = .ok (.invokestatic 115, 3) := by decide +kernel
theorem dX6_turn_66 : decode cX6_turn 66 = .ok (.invokevirtual 118, 3) := by decide +kernel
theorem dX6_turn_69 : decode cX6_turn 69 = .ok (.invokevirtual 111, 3) := by decide +kernel
theorem dX6_turn_72 : decode cX6_turn 72 = .ok (.ireturn, 1) := by decide +kernel
theorem dX6_behind_0 : decode cX6_behind 0 = .ok (.iload_n 1, 1) := by decide +kernel
theorem dX6_behind_1 : decode cX6_behind 1 = .ok (.invokestatic 102, 3) := by decide +kernel
theorem dX6_behind_4 : decode cX6_behind 4 = .ok (.ifCond .eq 17, 3) := by decide +kernel
theorem dX6_behind_7 : decode cX6_behind 7 = .ok (.iload_n 2, 1) := by decide +kernel
theorem dX6_behind_8 : decode cX6_behind 8 = .ok (.invokestatic 102, 3) := by decide +kernel
theorem dX6_behind_11 : decode cX6_behind 11 = .ok (.ifCond .eq 10, 3) := by decide +kernel
theorem dX6_behind_14 : decode cX6_behind 14 = .ok (.iload_n 3, 1) := by decide +kernel
theorem dX6_behind_15 : decode cX6_behind 15 = .ok (.invokestatic 102, 3) := by decide +kernel
theorem dX6_behind_18 : decode cX6_behind 18 = .ok (.ifCond .ne 6, 3) := by decide +kernel
theorem dX6_behind_21 : decode cX6_behind 21 = .ok (.ldc 68, 2) := by decide +kernel
theorem dX6_behind_23 : decode cX6_behind 23 = .ok (.ireturn, 1) := by decide +kernel
theorem dX6_behind_24 : decode cX6_behind 24 = .ok (.aload_n 0, 1) := by decide +kernel
theorem dX6_behind_25 : decode cX6_behind 25 = .ok (.getfield 25, 3) := by decide +kernel
theorem dX6_behind_28 : decode cX6_behind 28 = .ok (.iload_n 2, 1) := by decide +kernel
theorem dX6_behind_29 : decode cX6_behind 29 = .ok (.aaload, 1) := by decide +kernel
theorem dX6_behind_30 : decode cX6_behind 30 = .ok (.astore 4, 2) := by decide +kernel
theorem dX6_behind_32 : decode cX6_behind 32 = .ok (.aload_n 0, 1) := by decide +kernel
theorem dX6_behind_33 : decode cX6_behind 33 = .ok (.getfield 25, 3) := by decide +kernel
theorem dX6_behind_36 : decode cX6_behind 36 = .ok (.iload_n 3, 1) := by decide +kernel
theorem dX6_behind_37 : decode cX6_behind 37 = .ok (.aaload, 1) := by decide +kernel
theorem dX6_behind_38 : decode cX6_behind 38 = .ok (.astore 5, 2) := by decide +kernel
theorem dX6_behind_40 : decode cX6_behind 40 = .ok (.aload 4, 2) := by decide +kernel
theorem dX6_behind_42 : decode cX6_behind 42 = .ok (.ifnull 8, 3) := by decide +kernel
theorem dX6_behind_45 : decode cX6_behind 45 = .ok (.aload 5, 2) := by decide +kernel
theorem dX6_behind_47 : decode cX6_behind 47 = .ok (.ifnonnull 9, 3) := by decide +kernel
theorem dX6_behind_50 : decode cX6_behind 50 = .ok (.aload_n 0, 1) := by decide +kernel
theorem dX6_behind_51 : decode cX6_behind 51 = .ok (.iconst 1, 1) := by decide +kernel
theorem dX6_behind_52 : decode cX6_behind 52 = .ok (.invokevirtual 69, 3) := by decide +kernel
theorem dX6_behind_55 : decode cX6_behind 55 = .ok (.ireturn, 1) := by decide +kernel
theorem dX6_behind_56 : decode cX6_behind 56 = .ok (.aload 4, 2) := by decide +kernel
theorem dX6_behind_58 : decode cX6_behind 58 = .ok (.getfield 122, 3) := by decide +kernel
theorem dX6_behind_61 : decode cX6_behind 61 = .ok (.aload 5, 2) := by decide +kernel
theorem dX6_behind_63 : decode cX6_behind 63 = .ok (.getfield 122, 3) := by decide +kernel
theorem dX6_behind_66 : decode cX6_behind 66 = .ok (.imul, 1) := by decide +kernel
theorem dX6_behind_67 : decode cX6_behind 67 = .ok (.iconst 4, 1) := by decide +kernel
theorem dX6_behind_68 : decode cX6_behind 68 = .ok (.if_icmp .le 6, 3) := by decide +kernel
theorem dX6_behind_71 : decode cX6_behind 71 = .ok (.ldc 125, 2) := by decide +kernel
theorem dX6_behind_73 : decode cX6_behind 73 = .ok (.ireturn, 1) := by decide +kernel
theorem dX6_behind_74 : decode cX6_behind 74 = .ok (.iconst 5, 1) := by decide +kernel
theorem dX6_behind_75 : decode cX6_behind 75 = .ok (.newarray .int, 2) := by decide +kernel
theorem dX6_behind_77 : decode cX6_behind 77 = .ok (.astore 6, 2) := by decide +kernel
theorem dX6_behind_79 : decode cX6_behind 79 = .ok (.aload 4, 2) := by decide +kernel
theorem dX6_behind_81 : decode cX6_behind 81 = .ok (.aload 5, 2) := by decide +kernel
theorem dX6_behind_83 : decode cX6_behind 83 = .ok (.getfield 126, 3) := by decide +kernel
theorem dX6_behind_86 : decode cX6_behind 86 = .ok (.aload 5, 2) := by decide +kernel
theorem dX6_behind_88 : decode cX6_behind 88 = .ok (.getfield 122, 3) := by decide +kernel
theorem dX6_behind_91 : decode cX6_behind 91 = .ok (.aload 6, 2) := by decide +kernel
theorem dX6_behind_93 : decode cX6_behind 93 = .ok (.invokevirtual 129, 3) := by decide +kernel
theorem dX6_behind_96 : decode cX6_behind 96 = .ok (.aload_n 0, 1) := by decide +kernel
theorem dX6_behind_97 : decode cX6_behind 97 = .ok (.iload_n 1, 1) := by decide +kernel
theorem dX6_behind_98 : decode cX6_behind 98 = .ok (.aload 6, 2) := by decide +kernel
theorem dX6_behind_100 : decode cX6_behind 100 = .ok (.invokevirtual 111, 3) := by decide +kernel
theorem dX6_behind_103 : decode cX6_behind 103 = .ok (.ireturn, 1) := by decide +kernel
theorem dX6_clear_0 : decode cX6_clear 0 = .ok (.iload_n 1, 1) := by decide +kernel
theorem dX6_clear_1 : decode cX6_clear 1 = .ok (.invokestatic 102, 3) := by decide +kernel
theorem dX6_clear_4 : decode cX6_clear 4 = .ok (.ifCond .ne 6, 3) := by decide +kernel
theorem dX6_clear_7 : decode cX6_clear 7 = .ok (.ldc 68, 2) := by decide +kernel
theorem dX6_clear_9 : decode cX6_clear 9 = .ok (.ireturn, 1) := by decide +kernel
theorem dX6_clear_10 : decode cX6_clear 10 = .ok (.aload_n 0, 1) := by decide +kernel
theorem dX6_clear_11 : decode cX6_clear 11 = .ok (.getfield 25, 3) := by decide +kernel
theorem dX6_clear_14 : decode cX6_clear 14 = .ok (.iload_n 1, 1) := by decide +kernel
theorem dX6_clear_15 : decode cX6_clear 15 = .ok (.aaload, 1) := by decide +kernel
theorem dX6_clear_16 : decode cX6_clear 16 = .ok (.ifnonnull 7, 3) := by decide +kernel
theorem dX6_clear_19 : decode cX6_clear 19 = .ok (.iconst 0, 1) := by decide +kernel
theorem dX6_clear_20 : decode cX6_clear 20 = .ok (.goto 4, 3) := by decide +kernel
theorem dX6_clear_23 : decode cX6_clear 23 = .ok (.iconst 1, 1) := by decide +kernel
theorem dX6_clear_24 : decode cX6_clear 24 = .ok (.istore_n 2, 1) := by decide +kernel
theorem dX6_clear_25 : decode cX6_clear 25 = .ok (.aload_n 0, 1) := by decide +kernel
theorem dX6_clear_26 : decode cX6_clear 26 = .ok (.getfield 25, 3) := by decide +kernel
theorem dX6_clear_29 : decode cX6_clear 29 = .ok (.iload_n 1, 1) := by decide +kernel
theorem dX6_clear_30 : decode cX6_clear 30 = .ok (.aconst_null, 1) := by decide +kernel
theorem dX6_clear_31 : decode cX6_clear 31 = .ok (.aastore, 1) := by decide +kernel
theorem dX6_clear_32 : decode cX6_clear 32 = .ok (.iload_n 2, 1) := by decide +kernel
theorem dX6_clear_33 : decode cX6_clear 33 = .ok (.ireturn, 1) := by decide +kernel
theorem dX6_number_0 : decode cX6_number 0 = .ok (.iload_n 1, 1) := by decide +kernel
theorem dX6_number_1 : decode cX6_number 1 = .ok (.invokestatic 102, 3) := by decide +kernel
theorem dX6_number_4 : decode cX6_number 4 = .ok (.ifCond .eq 13, 3) := by decide +kernel
theorem dX6_number_7 : decode cX6_number 7 = .ok (.iload_n 2, 1) := by decide +kernel
theorem dX6_number_8 : decode cX6_number 8 = .ok (.iconst (-1), 1) := by decide +kernel
theorem dX6_number_9 : decode cX6_number 9 = .ok (.if_icmp .lt 8, 3) := by decide +kernel
theorem dX6_number_12 : decode cX6_number 12 = .ok (.iload_n 2, 1) := by decide +kernel
theorem dX6_number_13 : decode cX6_number 13 = .ok (.iconst 4, 1) := by decide +kernel
theorem dX6_number_14 : decode cX6_number 14 = .ok (.if_icmp .le 6, 3) := by decide +kernel
theorem dX6_number_17 : decode cX6_number 17 = .ok (.ldc 68, 2) := by decide +kernel
theorem dX6_number_19 : decode cX6_number 19 = .ok (.ireturn, 1) := by decide +kernel
theorem dX6_number_20 : decode cX6_number 20 = .ok (.aload_n 0, 1) := by decide +kernel
theorem dX6_number_21 : decode cX6_number 21 = .ok (.getfield 25, 3) := by decide +kernel
theorem dX6_number_24 : decode cX6_number 24 = .ok (.iload_n 1, 1) := by decide +kernel
theorem dX6_number_25 : decode cX6_number 25 = .ok (.aaload, 1) := by decide +kernel
theorem dX6_number_26 : decode cX6_number 26 = .ok (.astore_n 3, 1) := by decide +kernel
theorem dX6_number_27 : decode cX6_number 27 = .ok (.aload_n 3, 1) := by decide +kernel
theorem dX6_number_28 : decode cX6_number 28 = .ok (.ifnonnull 9, 3) := by decide +kernel
theorem dX6_number_31 : decode cX6_number 31 = .ok (.aload_n 0, 1) := by decide +kernel
theorem dX6_number_32 : decode cX6_number 32 = .ok (.iconst 1, 1) := by decide +kernel
theorem dX6_number_33 : decode cX6_number 33 = .ok (.invokevirtual 69, 3) := by decide +kernel
theorem dX6_number_36 : decode cX6_number 36 = .ok (.ireturn, 1) := by decide +kernel
theorem dX6_number_37 : decode cX6_number 37 = .ok (.aload_n 0, 1) := by decide +kernel
theorem dX6_number_38 : decode cX6_number 38 = .ok (.iload_n 2, 1) := by decide +kernel
theorem dX6_number_39 : decode cX6_number 39 = .ok (.ifCond .ge 10, 3) := by decide +kernel
theorem dX6_number_42 : decode cX6_number 42 = .ok (.aload_n 3, 1) := by decide +kernel
theorem dX6_number_43 : decode cX6_number 43 = .ok (.getfield 122, 3) := by decide +kernel
theorem dX6_number_46 : decode cX6_number 46 = .ok (.goto 9, 3) := by decide +kernel
theorem dX6_number_49 : decode cX6_number 49 = .ok (.aload_n 3, 1) := by decide +kernel
theorem dX6_number_50 : decode cX6_number 50 = .ok (.getfield 126, 3) := by decide +kernel
theorem dX6_number_53 : decode cX6_number 53 = .ok (.iload_n 2, 1) := by decide +kernel
theorem dX6_number_54 : decode cX6_number 54 = .ok (.iaload, 1) := by decide +kernel
theorem dX6_number_55 : decode cX6_number 55 = .ok (.invokevirtual 76, 3) := by decide +kernel
theorem dX6_number_58 : decode cX6_number 58 = .ok (.ireturn, 1) := by decide +kernel
theorem dX6_kind_0 : decode cX6_kind 0 = .ok (.iload_n 1, 1) := by decide +kernel
theorem dX6_kind_1 : decode cX6_kind 1 = .ok (.invokestatic 102, 3) := by decide +kernel
theorem dX6_kind_4 : decode cX6_kind 4 = .ok (.ifCond .ne 6, 3) := by decide +kernel
theorem dX6_kind_7 : decode cX6_kind 7 = .ok (.ldc 68, 2) := by decide +kernel
theorem dX6_kind_9 : decode cX6_kind 9 = .ok (.ireturn, 1) := by decide +kernel
theorem dX6_kind_10 : decode cX6_kind 10 = .ok (.aload_n 0, 1) := by decide +kernel
theorem dX6_kind_11 : decode cX6_kind 11 = .ok (.getfield 25, 3) := by decide +kernel
theorem dX6_kind_14 : decode cX6_kind 14 = .ok (.iload_n 1, 1) := by decide +kernel
theorem dX6_kind_15 : decode cX6_kind 15 = .ok (.aaload, 1) := by decide +kernel
theorem dX6_kind_16 : decode cX6_kind 16 = .ok (.astore_n 2, 1) := by decide +kernel
theorem dX6_kind_17 : decode cX6_kind 17 = .ok (.aload_n 2, 1) := by decide +kernel
theorem dX6_kind_18 : decode cX6_kind 18 = .ok (.ifnonnull 11, 3) := by decide +kernel
theorem dX6_kind_21 : decode cX6_kind 21 = .ok (.aload_n 0, 1) := by decide +kernel
theorem dX6_kind_22 : decode cX6_kind 22 = .ok (.iconst 1, 1) := by decide +kernel
theorem dX6_kind_23 : decode cX6_kind 23 = .ok (.invokevirtual 69, 3) := by decide +kernel
theorem dX6_kind_26 : decode cX6_kind 26 = .ok (.goto 11, 3) := by decide +kernel
theorem dX6_kind_29 : decode cX6_kind 29 = .ok (.aload_n 0, 1) := by decide +kernel
theorem dX6_kind_30 : decode cX6_kind 30 = .ok (.aload_n 2, 1) := by decide +kernel
theorem dX6_kind_31 : decode cX6_kind 31 = .ok (.getfield 133, 3) := by decide +kernel
theorem dX6_kind_34 : decode cX6_kind 34 = .ok (.invokevirtual 76, 3) := by decide +kernel
theorem dX6_kind_37 : decode cX6_kind 37 = .ok (.ireturn, 1) := by decide +kernel
theorem dX6_is_0 : decode cX6_is 0 = .ok (.iload_n 1, 1) := by decide +kernel
theorem dX6_is_1 : decode cX6_is 1 = .ok (.invokestatic 102, 3) := by decide +kernel
theorem dX6_is_4 : decode cX6_is 4 = .ok (.ifCond .eq 10, 3) := by decide +kernel
theorem dX6_is_7 : decode cX6_is 7 = .ok (.iload_n 2, 1) := by decide +kernel
theorem dX6_is_8 : decode cX6_is 8 = .ok (.invokestatic 136, 3) := by decide +kernel
theorem dX6_is_11 : decode cX6_is 11 = .ok (.ifCond .ne 6, 3) := by decide +kernel
theorem dX6_is_14 : decode cX6_is 14 = .ok (.ldc 68, 2) := by decide +kernel
theorem dX6_is_16 : decode cX6_is 16 = .ok (.ireturn, 1) := by decide +kernel
theorem dX6_is_17 : decode cX6_is 17 = .ok (.aload_n 0, 1) := by decide +kernel
theorem dX6_is_18 : decode cX6_is 18 = .ok (.getfield 25, 3) := by decide +kernel
theorem dX6_is_21 : decode cX6_is 21 = .ok (.iload_n 1, 1) := by decide +kernel
theorem dX6_is_22 : decode cX6_is 22 = .ok (.aaload, 1) := by decide +kernel
theorem dX6_is_23 : decode cX6_is 23 = .ok (.astore_n 3, 1) := by decide +kernel
theorem dX6_is_24 : decode cX6_is 24 = .ok (.aload_n 3, 1) := by decide +kernel
theorem dX6_is_25 : decode cX6_is 25 = .ok (.ifnull 15, 3) := by decide +kernel
theorem dX6_is_28 : decode cX6_is 28 = .ok (.aload_n 3, 1) := by decide +kernel
theorem dX6_is_29 : decode cX6_is 29 = .ok (.iload_n 2, 1) := by decide +kernel
theorem dX6_is_30 : decode cX6_is 30 = .ok (.invokevirtual 139, 3) := by decide +kernel
theorem dX6_is_33 : decode cX6_is 33 = .ok (.ifCond .eq 7, 3) := by decide +kernel
theorem dX6_is_36 : decode cX6_is 36 = .ok (.iconst 1, 1) := by decide +kernel
theorem dX6_is_37 : decode cX6_is 37 = .ok (.goto 4, 3) := by decide +kernel
theorem dX6_is_40 : decode cX6_is 40 = .ok (.iconst 0, 1) := by decide +kernel
theorem dX6_is_41 : decode cX6_is 41 = .ok (.ireturn, 1) := by decide +kernel
theorem dX6_as_0 : decode cX6_as 0 = .ok (.iload_n 1, 1) := by decide +kernel
theorem dX6_as_1 : decode cX6_as 1 = .ok (.invokestatic 102, 3) := by decide +kernel
theorem dX6_as_4 : decode cX6_as 4 = .ok (.ifCond .eq 10, 3) := by decide +kernel
theorem dX6_as_7 : decode cX6_as 7 = .ok (.iload_n 2, 1) := by decide +kernel
theorem dX6_as_8 : decode cX6_as 8 = .ok (.invokestatic 136, 3) := by decide +kernel
theorem dX6_as_11 : decode cX6_as 11 = .ok (.ifCond .ne 6, 3) := by decide +kernel
theorem dX6_as_14 : decode cX6_as 14 = .ok (.ldc 68, 2) := by decide +kernel
theorem dX6_as_16 : decode cX6_as 16 = .ok (.ireturn, 1) := by decide +kernel
theorem dX6_as_17 : decode cX6_as 17 = .ok (.aload_n 0, 1) := by decide +kernel
theorem dX6_as_18 : decode cX6_as 18 = .ok (.getfield 25, 3) := by decide +kernel
theorem dX6_as_21 : decode cX6_as 21 = .ok (.iload_n 1, 1) := by decide +kernel
theorem dX6_as_22 : decode cX6_as 22 = .ok (.aaload, 1) := by decide +kernel
theorem dX6_as_23 : decode cX6_as 23 = .ok (.astore_n 3, 1) := by decide +kernel
theorem dX6_as_24 : decode cX6_as 24 = .ok (.aload_n 3, 1) := by decide +kernel
theorem dX6_as_25 : decode cX6_as 25 = .ok (.ifnonnull 9, 3) := by decide +kernel
theorem dX6_as_28 : decode cX6_as 28 = .ok (.aload_n 0, 1) := by decide +kernel
theorem dX6_as_29 : decode cX6_as 29 = .ok (.iconst 1, 1) := by decide +kernel
theorem dX6_as_30 : decode cX6_as 30 = .ok (.invokevirtual 69, 3) := by decide +kernel
theorem dX6_as_33 : decode cX6_as 33 = .ok (.ireturn, 1) := by decide +kernel
theorem dX6_as_34 : decode cX6_as 34 = .ok (.aload_n 3, 1) := by decide +kernel
theorem dX6_as_35 : decode cX6_as 35 = .ok (.iload_n 2, 1) := by decide +kernel
theorem dX6_as_36 : decode cX6_as 36 = .ok (.invokevirtual 139, 3) := by decide +kernel
theorem dX6_as_39 : decode cX6_as 39 = .ok (.ifCond .eq 14, 3) := by decide +kernel
theorem dX6_as_42 : decode cX6_as 42 = .ok (.aload_n 0, 1) := by decide +kernel
theorem dX6_as_43 : decode cX6_as 43 = .ok (.aload_n 3, 1) := by decide +kernel
theorem dX6_as_44 : decode cX6_as 44 = .ok (.getfield 122, 3) := by decide +kernel
theorem dX6_as_47 : decode cX6_as 47 = .ok (.invokevirtual 76, 3) := by decide +kernel
theorem dX6_as_50 : decode cX6_as 50 = .ok (.goto 8, 3) := by decide +kernel
theorem dX6_as_53 : decode cX6_as 53 = .ok (.aload_n 0, 1) := by decide +kernel
theorem dX6_as_54 : decode cX6_as 54 = .ok (.iconst 3, 1) := by decide +kernel
theorem dX6_as_55 : decode cX6_as 55 = .ok (.invokevirtual 69, 3) := by decide +kernel
theorem dX6_as_58 : decode cX6_as 58 = .ok (.ireturn, 1) := by decide +kernel
theorem dX6_ask_0 : decode cX6_ask 0 = .ok (.iload_n 1, 1) := by decide +kernel
theorem dX6_ask_1 : decode cX6_ask 1 = .ok (.invokestatic 102, 3) := by decide +kernel
theorem dX6_ask_4 : decode cX6_ask 4 = .ok (.ifCond .eq 12, 3) := by decide +kernel
theorem dX6_ask_7 : decode cX6_ask 7 = .ok (.iload_n 2, 1) := by decide +kernel
theorem dX6_ask_8 : decode cX6_ask 8 = .ok (.ifCond .lt 8, 3) := by decide +kernel
theorem dX6_ask_11 : decode cX6_ask 11 = .ok (.iload_n 2, 1) := by decide +kernel
theorem dX6_ask_12 : decode cX6_ask 12 = .ok (.iconst 1, 1) := by decide +kernel
theorem dX6_ask_13 : decode cX6_ask 13 = .ok (.if_icmp .le 6, 3) := by decide +kernel
theorem dX6_ask_16 : decode cX6_ask 16 = .ok (.ldc 68, 2) := by decide +kernel
theorem dX6_ask_18 : decode cX6_ask 18 = .ok (.ireturn, 1) := by decide +kernel
theorem dX6_ask_19 : decode cX6_ask 19 = .ok (.aload_n 0, 1) := by decide +kernel
theorem dX6_ask_20 : decode cX6_ask 20 = .ok (.iconst 0, 1) := by decide +kernel
theorem dX6_ask_21 : decode cX6_ask 21 = .ok (.putfield 59, 3) := by decide +kernel
theorem dX6_ask_24 : decode cX6_ask 24 = .ok (.aload_n 0, 1) := by decide +kernel
theorem dX6_ask_25 : decode cX6_ask 25 = .ok (.getfield 25, 3) := by decide +kernel
theorem dX6_ask_28 : decode cX6_ask 28 = .ok (.iload_n 1, 1) := by decide +kernel
theorem dX6_ask_29 : decode cX6_ask 29 = .ok (.aaload, 1) := by decide +kernel
theorem dX6_ask_30 : decode cX6_ask 30 = .ok (.astore_n 3, 1) := by decide +kernel
theorem dX6_ask_31 : decode cX6_ask 31 = .ok (.aload_n 3, 1) := by decide +kernel
theorem dX6_ask_32 : decode cX6_ask 32 = .ok (.ifnonnull 9, 3) := by decide +kernel
theorem dX6_ask_35 : decode cX6_ask 35 = .ok (.aload_n 0, 1) := by decide +kernel
theorem dX6_ask_36 : decode cX6_ask 36 = .ok (.iconst 1, 1) := by decide +kernel
theorem dX6_ask_37 : decode cX6_ask 37 = .ok (.invokevirtual 69, 3) := by decide +kernel
theorem dX6_ask_40 : decode cX6_ask 40 = .ok (.ireturn, 1) := by decide +kernel
theorem dX6_ask_41 : decode cX6_ask 41 = .ok (.aload_n 0, 1) := by decide +kernel
theorem dX6_ask_42 : decode cX6_ask 42 = .ok (.getfield 38, 3) := by decide +kernel
theorem dX6_ask_45 : decode cX6_ask 45 = .ok (.aload_n 3, 1) := by decide +kernel
theorem dX6_ask_46 : decode cX6_ask 46 = .ok (.invokevirtual 142, 3) := by decide +kernel
theorem dX6_ask_49 : decode cX6_ask 49 = .ok (.aload_n 0, 1) := by decide +kernel
theorem dX6_ask_50 : decode cX6_ask 50 = .ok (.iload_n 2, 1) := by decide +kernel
theorem dX6_ask_51 : decode cX6_ask 51 = .ok (.ifCond .ne 11, 3) := by decide +kernel
theorem dX6_ask_54 : decode cX6_ask 54 = .ok (.aload_n 0, 1) := by decide +kernel
theorem dX6_ask_55 : decode cX6_ask 55 = .ok (.aload_n 3, 1) := by decide +kernel
theorem dX6_ask_56 : decode cX6_ask 56 = .ok (.invokevirtual 146, 3) := by decide +kernel
theorem dX6_ask_59 : decode cX6_ask 59 = .ok (.goto 8, 3) := by decide +kernel
theorem dX6_ask_62 : decode cX6_ask 62 = .ok (.aload_n 0, 1) := by decide +kernel
theorem dX6_ask_63 : decode cX6_ask 63 = .ok (.aload_n 3, 1) := by decide +kernel
theorem dX6_ask_64 : decode cX6_ask 64 = .ok (.invokevirtual 150, 3) := by decide +kernel
theorem dX6_ask_67 : decode cX6_ask 67 = .ok (.invokevirtual 76, 3) := by decide +kernel
theorem dX6_ask_70 : decode cX6_ask 70 = .ok (.ireturn, 1) := by decide +kernel
theorem dX6_trace_0 : decode cX6_trace 0 = .ok (.iload_n 1, 1) := by decide +kernel
theorem dX6_trace_1 : decode cX6_trace 1 = .ok (.ifCond .lt 20, 3) := by decide +kernel
theorem dX6_trace_4 : decode cX6_trace 4 = .ok (.iload_n 1, 1) := by decide +kernel
theorem dX6_trace_5 : decode cX6_trace 5 = .ok (.aload_n 0, 1) := by decide +kernel
theorem dX6_trace_6 : decode cX6_trace 6 = .ok (.getfield 59, 3) := by decide +kernel
theorem dX6_trace_9 : decode cX6_trace 9 = .ok (.if_icmp .ge 12, 3) := by decide +kernel
theorem dX6_trace_12 : decode cX6_trace 12 = .ok (.aload_n 0, 1) := by decide +kernel
theorem dX6_trace_13 : decode cX6_trace 13 = .ok (.getfield 29, 3) := by decide +kernel
theorem dX6_trace_16 : decode cX6_trace 16 = .ok (.iload_n 1, 1) := by decide +kernel
theorem dX6_trace_17 : decode cX6_trace 17 = .ok (.iaload, 1) := by decide +kernel
theorem dX6_trace_18 : decode cX6_trace 18 = .ok (.goto 5, 3) := by decide +kernel
theorem dX6_trace_21 : decode cX6_trace 21 = .ok (.ldc 153, 2) := by decide +kernel
theorem dX6_trace_23 : decode cX6_trace 23 = .ok (.ireturn, 1) := by decide +kernel
theorem dX6_step_0 : decode cX6_step 0 = .ok (.iload_n 1, 1) := by decide +kernel
theorem dX6_step_1 : decode cX6_step 1 = .ok (.invokestatic 102, 3) := by decide +kernel
theorem dX6_step_4 : decode cX6_step 4 = .ok (.ifCond .eq 21, 3) := by decide +kernel
theorem dX6_step_7 : decode cX6_step 7 = .ok (.aload_n 0, 1) := by decide +kernel
theorem dX6_step_8 : decode cX6_step 8 = .ok (.iload_n 2, 1) := by decide +kernel
theorem dX6_step_9 : decode cX6_step 9 = .ok (.invokevirtual 154, 3) := by decide +kernel
theorem dX6_step_12 : decode cX6_step 12 = .ok (.ifCond .eq 13, 3) := by decide +kernel
theorem dX6_step_15 : decode cX6_step 15 = .ok (.iload_n 3, 1) := by decide +kernel
theorem dX6_step_16 : decode cX6_step 16 = .ok (.ifCond .lt 9, 3) := by decide +kernel
theorem dX6_step_19 : decode cX6_step 19 = .ok (.iload_n 3, 1) := by decide +kernel
theorem dX6_step_20 : decode cX6_step 20 = .ok (.ldc 157, 2) := by decide +kernel
theorem dX6_step_22 : decode cX6_step 22 = .ok (.if_icmp .le 6, 3) := by decide +kernel
theorem dX6_step_25 : decode cX6_step 25 = .ok (.ldc 68, 2) := by decide +kernel
theorem dX6_step_27 : decode cX6_step 27 = .ok (.ireturn, 1) := by decide +kernel
theorem dX6_step_28 : decode cX6_step 28 = .ok (.aload_n 0, 1) := by decide +kernel
theorem dX6_step_29 : decode cX6_step 29 = .ok (.getfield 25, 3) := by decide +kernel
theorem dX6_step_32 : decode cX6_step 32 = .ok (.iload_n 1, 1) := by decide +kernel
theorem dX6_step_33 : decode cX6_step 33 = .ok (.aaload, 1) := by decide +kernel
theorem dX6_step_34 : decode cX6_step 34 = .ok (.astore 4, 2) := by decide +kernel
theorem dX6_step_36 : decode cX6_step 36 = .ok (.aload 4, 2) := by decide +kernel
theorem dX6_step_38 : decode cX6_step 38 = .ok (.ifnonnull 11, 3) := by decide +kernel
theorem dX6_step_41 : decode cX6_step 41 = .ok (.aload_n 0, 1) := by decide +kernel
theorem dX6_step_42 : decode cX6_step 42 = .ok (.iconst 1, 1) := by decide +kernel
theorem dX6_step_43 : decode cX6_step 43 = .ok (.invokevirtual 69, 3) := by decide +kernel
theorem dX6_step_46 : decode cX6_step 46 = .ok (.goto 21, 3) := by decide +kernel
theorem dX6_step_49 : decode cX6_step 49 = .ok (.aload_n 0, 1) := by decide +kernel
theorem dX6_step_50 : decode cX6_step 50 = .ok (.aload_n 0, 1) := by decide +kernel
theorem dX6_step_51 : decode cX6_step 51 = .ok (.aload 4, 2) := by decide +kernel
theorem dX6_step_53 : decode cX6_step 53 = .ok (.invokevirtual 158, 3) := by decide +kernel
theorem dX6_step_56 : decode cX6_step 56 = .ok (.getfield 162, 3) := by decide +kernel
theorem dX6_step_59 : decode cX6_step 59 = .ok (.iload_n 2, 1) := by decide +kernel
theorem dX6_step_60 : decode cX6_step 60 = .ok (.iload_n 3, 1) := by decide +kernel
theorem dX6_step_61 : decode cX6_step 61 = .ok (.invokevirtual 166, 3) := by decide +kernel
theorem dX6_step_64 : decode cX6_step 64 = .ok (.invokevirtual 76, 3) := by decide +kernel
theorem dX6_step_67 : decode cX6_step 67 = .ok (.ireturn, 1) := by decide +kernel
theorem dX6_way_0 : decode cX6_way 0 = .ok (.iload_n 1, 1) := by decide +kernel
theorem dX6_way_1 : decode cX6_way 1 = .ok (.invokestatic 102, 3) := by decide +kernel
theorem dX6_way_4 : decode cX6_way 4 = .ok (.ifCond .eq 20, 3) := by decide +kernel
theorem dX6_way_7 : decode cX6_way 7 = .ok (.aload_n 0, 1) := by decide +kernel
theorem dX6_way_8 : decode cX6_way 8 = .ok (.iload_n 2, 1) := by decide +kernel
theorem dX6_way_9 : decode cX6_way 9 = .ok (.invokevirtual 154, 3) := by decide +kernel
theorem dX6_way_12 : decode cX6_way 12 = .ok (.ifCond .eq 12, 3) := by decide +kernel
theorem dX6_way_15 : decode cX6_way 15 = .ok (.iload_n 3, 1) := by decide +kernel
theorem dX6_way_16 : decode cX6_way 16 = .ok (.ifCond .lt 8, 3) := by decide +kernel
theorem dX6_way_19 : decode cX6_way 19 = .ok (.iload_n 3, 1) := by decide +kernel
theorem dX6_way_20 : decode cX6_way 20 = .ok (.iconst 3, 1) := by decide +kernel
theorem dX6_way_21 : decode cX6_way 21 = .ok (.if_icmp .le 6, 3) := by decide +kernel
theorem dX6_way_24 : decode cX6_way 24 = .ok (.ldc 68, 2) := by decide +kernel
theorem dX6_way_26 : decode cX6_way 26 = .ok (.ireturn, 1) := by decide +kernel
theorem dX6_way_27 : decode cX6_way 27 = .ok (.aload_n 0, 1) := by decide +kernel
theorem dX6_way_28 : decode cX6_way 28 = .ok (.getfield 25, 3) := by decide +kernel
theorem dX6_way_31 : decode cX6_way 31 = .ok (.iload_n 1, 1) := by decide +kernel
theorem dX6_way_32 : decode cX6_way 32 = .ok (.aaload, 1) := by decide +kernel
theorem dX6_way_33 : decode cX6_way 33 = .ok (.astore 4, 2) := by decide +kernel
theorem dX6_way_35 : decode cX6_way 35 = .ok (.aload 4, 2) := by decide +kernel
theorem dX6_way_37 : decode cX6_way 37 = .ok (.ifnonnull 11, 3) := by decide +kernel
theorem dX6_way_40 : decode cX6_way 40 = .ok (.aload_n 0, 1) := by decide +kernel
theorem dX6_way_41 : decode cX6_way 41 = .ok (.iconst 1, 1) := by decide +kernel
theorem dX6_way_42 : decode cX6_way 42 = .ok (.invokevirtual 69, 3) := by decide +kernel
theorem dX6_way_45 : decode cX6_way 45 = .ok (.goto 18, 3) := by decide +kernel
theorem dX6_way_48 : decode cX6_way 48 = .ok (.aload_n 0, 1) := by decide +kernel
theorem dX6_way_49 : decode cX6_way 49 = .ok (.aload_n 0, 1) := by decide +kernel
theorem dX6_way_50 : decode cX6_way 50 = .ok (.aload 4, 2) := by decide +kernel
theorem dX6_way_52 : decode cX6_way 52 = .ok (.invokevirtual 158, 3) := by decide +kernel
theorem dX6_way_55 : decode cX6_way 55 = .ok (.iload_n 2, 1) := by decide +kernel
theorem dX6_way_56 : decode cX6_way 56 = .ok (.iload_n 3, 1) := by decide +kernel
theorem dX6_way_57 : decode cX6_way 57 = .ok (.invokevirtual 171, 3) := by decide +kernel
theorem dX6_way_60 : decode cX6_way 60 = .ok (.invokevirtual 76, 3) := by decide +kernel
theorem dX6_way_63 : decode cX6_way 63 = .ok (.ireturn, 1) := by decide +kernel
theorem dX6_ring_0 : decode cX6_ring 0 = .ok (.iload_n 1, 1) := by decide +kernel
theorem dX6_ring_1 : decode cX6_ring 1 = .ok (.invokestatic 102, 3) := by decide +kernel
theorem dX6_ring_4 : decode cX6_ring 4 = .ok (.ifCond .eq 12, 3) := by decide +kernel
theorem dX6_ring_7 : decode cX6_ring 7 = .ok (.iload_n 3, 1) := by decide +kernel
theorem dX6_ring_8 : decode cX6_ring 8 = .ok (.ifCond .lt 8, 3) := by decide +kernel
theorem dX6_ring_11 : decode cX6_ring 11 = .ok (.iload_n 3, 1) := by decide +kernel
theorem dX6_ring_12 : decode cX6_ring 12 = .ok (.iconst 3, 1) := by decide +kernel
theorem dX6_ring_13 : decode cX6_ring 13 = .ok (.if_icmp .le 6, 3) := by decide +kernel
theorem dX6_ring_16 : decode cX6_ring 16 = .ok (.ldc 68, 2) := by decide +kernel
theorem dX6_ring_18 : decode cX6_ring 18 = .ok (.ireturn, 1) := by decide +kernel
theorem dX6_ring_19 : decode cX6_ring 19 = .ok (.aload_n 0, 1) := by decide +kernel
theorem dX6_ring_20 : decode cX6_ring 20 = .ok (.getfield 25, 3) := by decide +kernel
theorem dX6_ring_23 : decode cX6_ring 23 = .ok (.iload_n 1, 1) := by decide +kernel
theorem dX6_ring_24 : decode cX6_ring 24 = .ok (.aaload, 1) := by decide +kernel
theorem dX6_ring_25 : decode cX6_ring 25 = .ok (.astore 4, 2) := by decide +kernel
theorem dX6_ring_27 : decode cX6_ring 27 = .ok (.aload 4, 2) := by decide +kernel
theorem dX6_ring_29 : decode cX6_ring 29 = .ok (.ifnonnull 11, 3) := by decide +kernel
theorem dX6_ring_32 : decode cX6_ring 32 = .ok (.aload_n 0, 1) := by decide +kernel
theorem dX6_ring_33 : decode cX6_ring 33 = .ok (.iconst 1, 1) := by decide +kernel
theorem dX6_ring_34 : decode cX6_ring 34 = .ok (.invokevirtual 69, 3) := by decide +kernel
theorem dX6_ring_37 : decode cX6_ring 37 = .ok (.goto 18, 3) := by decide +kernel
theorem dX6_ring_40 : decode cX6_ring 40 = .ok (.aload_n 0, 1) := by decide +kernel
theorem dX6_ring_41 : decode cX6_ring 41 = .ok (.aload_n 0, 1) := by decide +kernel
theorem dX6_ring_42 : decode cX6_ring 42 = .ok (.aload 4, 2) := by decide +kernel
theorem dX6_ring_44 : decode cX6_ring 44 = .ok (.invokevirtual 158, 3) := by decide +kernel
theorem dX6_ring_47 : decode cX6_ring 47 = .ok (.iload_n 2, 1) := by decide +kernel
theorem dX6_ring_48 : decode cX6_ring 48 = .ok (.iload_n 3, 1) := by decide +kernel
theorem dX6_ring_49 : decode cX6_ring 49 = .ok (.invokevirtual 174, 3) := by decide +kernel
theorem dX6_ring_52 : decode cX6_ring 52 = .ok (.invokevirtual 76, 3) := by decide +kernel
theorem dX6_ring_55 : decode cX6_ring 55 = .ok (.ireturn, 1) := by decide +kernel
theorem dX6_all_0 : decode cX6_all 0 = .ok (.iload_n 1, 1) := by decide +kernel
theorem dX6_all_1 : decode cX6_all 1 = .ok (.invokestatic 102, 3) := by decide +kernel
theorem dX6_all_4 : decode cX6_all 4 = .ok (.ifCond .eq 12, 3) := by decide +kernel
theorem dX6_all_7 : decode cX6_all 7 = .ok (.iload_n 2, 1) := by decide +kernel
theorem dX6_all_8 : decode cX6_all 8 = .ok (.ifCond .lt 8, 3) := by decide +kernel
theorem dX6_all_11 : decode cX6_all 11 = .ok (.iload_n 2, 1) := by decide +kernel
theorem dX6_all_12 : decode cX6_all 12 = .ok (.iconst 5, 1) := by decide +kernel
theorem dX6_all_13 : decode cX6_all 13 = .ok (.if_icmp .le 6, 3) := by decide +kernel
theorem dX6_all_16 : decode cX6_all 16 = .ok (.ldc 68, 2) := by decide +kernel
theorem dX6_all_18 : decode cX6_all 18 = .ok (.ireturn, 1) := by decide +kernel
theorem dX6_all_19 : decode cX6_all 19 = .ok (.aload_n 0, 1) := by decide +kernel
theorem dX6_all_20 : decode cX6_all 20 = .ok (.getfield 25, 3) := by decide +kernel
theorem dX6_all_23 : decode cX6_all 23 = .ok (.iload_n 1, 1) := by decide +kernel
theorem dX6_all_24 : decode cX6_all 24 = .ok (.aaload, 1) := by decide +kernel
theorem dX6_all_25 : decode cX6_all 25 = .ok (.astore_n 3, 1) := by decide +kernel
theorem dX6_all_26 : decode cX6_all 26 = .ok (.aload_n 3, 1) := by decide +kernel
theorem dX6_all_27 : decode cX6_all 27 = .ok (.ifnonnull 11, 3) := by decide +kernel
theorem dX6_all_30 : decode cX6_all 30 = .ok (.aload_n 0, 1) := by decide +kernel
theorem dX6_all_31 : decode cX6_all 31 = .ok (.iconst 1, 1) := by decide +kernel
theorem dX6_all_32 : decode cX6_all 32 = .ok (.invokevirtual 69, 3) := by decide +kernel
theorem dX6_all_35 : decode cX6_all 35 = .ok (.goto 16, 3) := by decide +kernel
theorem dX6_all_38 : decode cX6_all 38 = .ok (.aload_n 0, 1) := by decide +kernel
theorem dX6_all_39 : decode cX6_all 39 = .ok (.aload_n 0, 1) := by decide +kernel
theorem dX6_all_40 : decode cX6_all 40 = .ok (.aload_n 3, 1) := by decide +kernel
theorem dX6_all_41 : decode cX6_all 41 = .ok (.invokevirtual 158, 3) := by decide +kernel
theorem dX6_all_44 : decode cX6_all 44 = .ok (.iload_n 2, 1) := by decide +kernel
theorem dX6_all_45 : decode cX6_all 45 = .ok (.invokevirtual 177, 3) := by decide +kernel
theorem dX6_all_48 : decode cX6_all 48 = .ok (.invokevirtual 76, 3) := by decide +kernel
theorem dX6_all_51 : decode cX6_all 51 = .ok (.ireturn, 1) := by decide +kernel
theorem dX6_alike_0 : decode cX6_alike 0 = .ok (.iload_n 1, 1) := by decide +kernel
theorem dX6_alike_1 : decode cX6_alike 1 = .ok (.invokestatic 102, 3) := by decide +kernel
theorem dX6_alike_4 : decode cX6_alike 4 = .ok (.ifCond .eq 10, 3) := by decide +kernel
theorem dX6_alike_7 : decode cX6_alike 7 = .ok (.iload_n 2, 1) := by decide +kernel
theorem dX6_alike_8 : decode cX6_alike 8 = .ok (.invokestatic 102, 3) := by decide +kernel
theorem dX6_alike_11 : decode cX6_alike 11 = .ok (.ifCond .ne 6, 3) := by decide +kernel
theorem dX6_alike_14 : decode cX6_alike 14 = .ok (.ldc 68, 2) := by decide +kernel
theorem dX6_alike_16 : decode cX6_alike 16 = .ok (.ireturn, 1) := by decide +kernel
theorem dX6_alike_17 : decode cX6_alike 17 = .ok (.aload_n 0, 1) := by decide +kernel
theorem dX6_alike_18 : decode cX6_alike 18 = .ok (.getfield 25, 3) := by decide +kernel
theorem dX6_alike_21 : decode cX6_alike 21 = .ok (.iload_n 1, 1) := by decide +kernel
theorem dX6_alike_22 : decode cX6_alike 22 = .ok (.aaload, 1) := by decide +kernel
theorem dX6_alike_23 : decode cX6_alike 23 = .ok (.astore_n 3, 1) := by decide +kernel
theorem dX6_alike_24 : decode cX6_alike 24 = .ok (.aload_n 0, 1) := by decide +kernel
theorem dX6_alike_25 : decode cX6_alike 25 = .ok (.getfield 25, 3) := by decide +kernel
theorem dX6_alike_28 : decode cX6_alike 28 = .ok (.iload_n 2, 1) := by decide +kernel
theorem dX6_alike_29 : decode cX6_alike 29 = .ok (.aaload, 1) := by decide +kernel
theorem dX6_alike_30 : decode cX6_alike 30 = .ok (.astore 4, 2) := by decide +kernel
theorem dX6_alike_32 : decode cX6_alike 32 = .ok (.aload_n 3, 1) := by decide +kernel
theorem dX6_alike_33 : decode cX6_alike 33 = .ok (.ifnull 8, 3) := by decide +kernel
theorem dX6_alike_36 : decode cX6_alike 36 = .ok (.aload 4, 2) := by decide +kernel
theorem dX6_alike_38 : decode cX6_alike 38 = .ok (.ifnonnull 9, 3) := by decide +kernel
theorem dX6_alike_41 : decode cX6_alike 41 = .ok (.aload_n 0, 1) := by decide +kernel
theorem dX6_alike_42 : decode cX6_alike 42 = .ok (.iconst 1, 1) := by decide +kernel
theorem dX6_alike_43 : decode cX6_alike 43 = .ok (.invokevirtual 69, 3) := by decide +kernel
theorem dX6_alike_46 : decode cX6_alike 46 = .ok (.ireturn, 1) := by decide +kernel
theorem dX6_alike_47 : decode cX6_alike 47 = .ok (.aload_n 0, 1) := by decide +kernel
theorem dX6_alike_48 : decode cX6_alike 48 = .ok (.getfield 38, 3) := by decide +kernel
theorem dX6_alike_51 : decode cX6_alike 51 = .ok (.aload_n 3, 1) := by decide +kernel
theorem dX6_alike_52 : decode cX6_alike 52 = .ok (.invokevirtual 142, 3) := by decide +kernel
theorem dX6_alike_55 : decode cX6_alike 55 = .ok (.aload_n 0, 1) := by decide +kernel
theorem dX6_alike_56 : decode cX6_alike 56 = .ok (.getfield 42, 3) := by decide +kernel
theorem dX6_alike_59 : decode cX6_alike 59 = .ok (.aload 4, 2) := by decide +kernel
theorem dX6_alike_61 : decode cX6_alike 61 = .ok (.invokevirtual 142, 3) := by decide +kernel
theorem dX6_alike_64 : decode cX6_alike 64 = .ok (.aload_n 0, 1) := by decide +kernel
theorem dX6_alike_65 : decode cX6_alike 65 = .ok (.aload_n 0, 1) := by decide +kernel
theorem dX6_alike_66 : decode cX6_alike 66 = .ok (.getfield 38, 3) := by decide +kernel
theorem dX6_alike_69 : decode cX6_alike 69 = .ok (.aload_n 0, 1) := by decide +kernel
theorem dX6_alike_70 : decode cX6_alike 70 = .ok (.getfield 42, 3) := by decide +kernel
theorem dX6_alike_73 : decode cX6_alike 73 = .ok (.getfield 162, 3) := by decide +kernel
theorem dX6_alike_76 : decode cX6_alike 76 = .ok (.invokevirtual 180, 3) := by decide +kernel
theorem dX6_alike_79 : decode cX6_alike 79 = .ok (.ifCond .eq 7, 3) := by decide +kernel
theorem dX6_alike_82 : decode cX6_alike 82 = .ok (.iconst 1, 1) := by decide +kernel
theorem dX6_alike_83 : decode cX6_alike 83 = .ok (.goto 4, 3) := by decide +kernel
theorem dX6_alike_86 : decode cX6_alike 86 = .ok (.iconst 0, 1) := by decide +kernel
theorem dX6_alike_87 : decode cX6_alike 87 = .ok (.invokevirtual 76, 3) := by decide +kernel
theorem dX6_alike_90 : decode cX6_alike 90 = .ok (.ireturn, 1) := by decide +kernel
theorem dX6_round_0 : decode cX6_round 0 = .ok (.iload_n 1, 1) := by decide +kernel
theorem dX6_round_1 : decode cX6_round 1 = .ok (.invokestatic 102, 3) := by decide +kernel
theorem dX6_round_4 : decode cX6_round 4 = .ok (.ifCond .eq 19, 3) := by decide +kernel
theorem dX6_round_7 : decode cX6_round 7 = .ok (.iload_n 2, 1) := by decide +kernel
theorem dX6_round_8 : decode cX6_round 8 = .ok (.iconst 1, 1) := by decide +kernel
theorem dX6_round_9 : decode cX6_round 9 = .ok (.if_icmp .lt 14, 3) := by decide +kernel
theorem dX6_round_12 : decode cX6_round 12 = .ok (.iload_n 2, 1) := by decide +kernel
theorem dX6_round_13 : decode cX6_round 13 = .ok (.bipush 6, 2) := by decide +kernel
theorem dX6_round_15 : decode cX6_round 15 = .ok (.if_icmp .gt 8, 3) := by decide +kernel
theorem dX6_round_18 : decode cX6_round 18 = .ok (.iload_n 3, 1) := by decide +kernel
theorem dX6_round_19 : decode cX6_round 19 = .ok (.iconst (-1), 1) := by decide +kernel
theorem dX6_round_20 : decode cX6_round 20 = .ok (.if_icmp .ge 6, 3) := by decide +kernel
theorem dX6_round_23 : decode cX6_round 23 = .ok (.ldc 68, 2) := by decide +kernel
theorem dX6_round_25 : decode cX6_round 25 = .ok (.ireturn, 1) := by decide +kernel
theorem dX6_round_26 : decode cX6_round 26 = .ok (.aload_n 0, 1) := by decide +kernel
theorem dX6_round_27 : decode cX6_round 27 = .ok (.getfield 25, 3) := by decide +kernel
theorem dX6_round_30 : decode cX6_round 30 = .ok (.iload_n 1, 1) := by decide +kernel
theorem dX6_round_31 : decode cX6_round 31 = .ok (.aaload, 1) := by decide +kernel
theorem dX6_round_32 : decode cX6_round 32 = .ok (.astore 4, 2) := by decide +kernel
theorem dX6_round_34 : decode cX6_round 34 = .ok (.aload 4, 2) := by decide +kernel
theorem dX6_round_36 : decode cX6_round 36 = .ok (.ifnonnull 9, 3) := by decide +kernel
theorem dX6_round_39 : decode cX6_round 39 = .ok (.aload_n 0, 1) := by decide +kernel
theorem dX6_round_40 : decode cX6_round 40 = .ok (.iconst 1, 1) := by decide +kernel
theorem dX6_round_41 : decode cX6_round 41 = .ok (.invokevirtual 69, 3) := by decide +kernel
theorem dX6_round_44 : decode cX6_round 44 = .ok (.ireturn, 1) := by decide +kernel
theorem dX6_round_45 : decode cX6_round 45 = .ok (.aload 4, 2) := by decide +kernel
theorem dX6_round_47 : decode cX6_round 47 = .ok (.getfield 122, 3) := by decide +kernel
theorem dX6_round_50 : decode cX6_round 50 = .ok (.iconst 2, 1) := by decide +kernel
theorem dX6_round_51 : decode cX6_round 51 = .ok (.if_icmp .ge 9, 3) := by decide +kernel
theorem dX6_round_54 : decode cX6_round 54 = .ok (.aload_n 0, 1) := by decide +kernel
theorem dX6_round_55 : decode cX6_round 55 = .ok (.iconst 3, 1) := by decide +kernel
theorem dX6_round_56 : decode cX6_round 56 = .ok (.invokevirtual 69, 3) := by decide +kernel
theorem dX6_round_59 : decode cX6_round 59 = .ok (.ireturn, 1) := by decide +kernel
theorem dX6_round_60 : decode cX6_round 60 = .ok (.aload 4, 2) := by decide +kernel
theorem dX6_round_62 : decode cX6_round 62 = .ok (.getfield 122, 3) := by decide +kernel
theorem dX6_round_65 : decode cX6_round 65 = .ok (.iload_n 2, 1) := by decide +kernel
theorem dX6_round_66 : decode cX6_round 66 = .ok (.invokestatic 184, 3) := by decide +kernel
theorem dX6_round_69 : decode cX6_round 69 = .ok (.bipush 64, 2) := by decide +kernel
theorem dX6_round_71 : decode cX6_round 71 = .ok (.if_icmp .le 6, 3) := by decide +kernel
theorem dX6_round_74 : decode cX6_round 74 = .ok (.ldc 125, 2) := by decide +kernel
theorem dX6_round_76 : decode cX6_round 76 = .ok (.ireturn, 1) := by decide +kernel
theorem dX6_round_77 : decode cX6_round 77 = .ok (.aload_n 0, 1) := by decide +kernel
theorem dX6_round_78 : decode cX6_round 78 = .ok (.getfield 48, 3) := by decide +kernel
theorem dX6_round_81 : decode cX6_round 81 = .ok (.aload 4, 2) := by decide +kernel
theorem dX6_round_83 : decode cX6_round 83 = .ok (.iload_n 2, 1) := by decide +kernel
theorem dX6_round_84 : decode cX6_round 84 = .ok (.invokevirtual 187, 3) := by decide +kernel
theorem dX6_round_87 : decode cX6_round 87 = .ok (.aload_n 0, 1) := by decide +kernel
theorem dX6_round_88 : decode cX6_round 88 = .ok (.iload_n 3, 1) := by decide +kernel
theorem dX6_round_89 : decode cX6_round 89 = .ok (.ifCond .ge 14, 3) := by decide +kernel
theorem dX6_round_92 : decode cX6_round 92 = .ok (.aload_n 0, 1) := by decide +kernel
theorem dX6_round_93 : decode cX6_round 93 = .ok (.getfield 48, 3) := by decide +kernel
theorem dX6_round_96 : decode cX6_round 96 = .ok (.iload_n 2, 1) := by decide +kernel
theorem dX6_round_97 : decode cX6_round 97 = .ok (.invokevirtual 191, 3) := by decide +kernel
theorem dX6_round_100 : decode cX6_round 100 = .ok (.goto 12, 3) := by decide +kernel
theorem dX6_round_103 : decode cX6_round 103 = .ok (.aload_n 0, 1) := by decide +kernel
theorem dX6_round_104 : decode cX6_round 104 = .ok (.getfield 48, 3) := by decide +kernel
theorem dX6_round_107 : decode cX6_round 107 = .ok (.iload_n 2, 1) := by decide +kernel
theorem dX6_round_108 : decode cX6_round 108 = .ok (.iload_n 3, 1) := by decide +kernel
theorem dX6_round_109 : decode cX6_round 109 = .ok (.invokevirtual 194, 3) := by decide +kernel
theorem dX6_round_112 : decode cX6_round 112 = .ok (.invokevirtual 76, 3) := by decide +kernel
theorem dX6_round_115 : decode cX6_round 115 = .ok (.ireturn, 1) := by decide +kernel
theorem dX6_fraction_0 : decode cX6_fraction 0 = .ok (.iload_n 1, 1) := by decide +kernel
theorem dX6_fraction_1 : decode cX6_fraction 1 = .ok (.iload_n 2, 1) := by decide +kernel
theorem dX6_fraction_2 : decode cX6_fraction 2 = .ok (.invokestatic 197, 3) := by decide +kernel
theorem dX6_fraction_5 : decode cX6_fraction 5 = .ok (.ifCond .eq 14, 3) := by decide +kernel
theorem dX6_fraction_8 : decode cX6_fraction 8 = .ok (.iload 4, 2) := by decide +kernel
theorem dX6_fraction_10 : decode cX6_fraction 10 = .ok (.ifCond .lt 9, 3) := by decide +kernel
theorem dX6_fraction_13 : decode cX6_fraction 13 = .ok (.iload 4, 2) := by decide +kernel
theorem dX6_fraction_15 : decode cX6_fraction 15 = .ok (.iconst 2, 1) := by decide +kernel
theorem dX6_fraction_16 : decode cX6_fraction 16 = .ok (.if_icmp .le 6, 3) := by decide +kernel
theorem dX6_fraction_19 : decode cX6_fraction 19 = .ok (.ldc 68, 2) := by decide +kernel
theorem dX6_fraction_21 : decode cX6_fraction 21 = .ok (.ireturn, 1) := by decide +kernel
theorem dX6_fraction_22 : decode cX6_fraction 22 = .ok (.aload_n 0, 1) := by decide +kernel
theorem dX6_fraction_23 : decode cX6_fraction 23 = .ok (.getfield 55, 3) := by decide +kernel
theorem dX6_fraction_26 : decode cX6_fraction 26 = .ok (.iload_n 1, 1) := by decide +kernel
theorem dX6_fraction_27 : decode cX6_fraction 27 = .ok (.iload_n 2, 1) := by decide +kernel
theorem dX6_fraction_28 : decode cX6_fraction 28 = .ok (.invokevirtual 200, 3) := by decide +kernel
theorem dX6_fraction_31 : decode cX6_fraction 31 = .ok (.iload_n 3, 1) := by decide +kernel
theorem dX6_fraction_32 : decode cX6_fraction 32 = .ok (.ldc 153, 2) := by decide +kernel
theorem dX6_fraction_34 : decode cX6_fraction 34 = .ok (.if_icmp .ne 13, 3) := by decide +kernel
theorem dX6_fraction_37 : decode cX6_fraction 37 = .ok (.aload_n 0, 1) := by decide +kernel
theorem dX6_fraction_38 : decode cX6_fraction 38 = .ok (.getfield 55, 3) := by decide +kernel
theorem dX6_fraction_41 : decode cX6_fraction 41 = .ok (.getfield 202, 3) := by decide +kernel
theorem dX6_fraction_44 : decode cX6_fraction 44 = .ok (.goto 13, 3) := by decide +kernel
theorem dX6_fraction_47 : decode cX6_fraction 47 = .ok (.aload_n 0, 1) := by decide +kernel
theorem dX6_fraction_48 : decode cX6_fraction 48 = .ok (.getfield 55, 3) := by decide +kernel
theorem dX6_fraction_51 : decode cX6_fraction 51 = .ok (.iload_n 3, 1) := by decide +kernel
theorem dX6_fraction_52 : decode cX6_fraction 52 = .ok (.iload 4, 2) := by decide +kernel
theorem dX6_fraction_54 : decode cX6_fraction 54 = .ok (.invokevirtual 205, 3) := by decide +kernel
theorem dX6_fraction_57 : decode cX6_fraction 57 = .ok (.ireturn, 1) := by decide +kernel
theorem dX6_next_0 : decode cX6_next 0 = .ok (.iload_n 1, 1) := by decide +kernel
theorem dX6_next_1 : decode cX6_next 1 = .ok (.iload_n 2, 1) := by decide +kernel
theorem dX6_next_2 : decode cX6_next 2 = .ok (.invokestatic 197, 3) := by decide +kernel
theorem dX6_next_5 : decode cX6_next 5 = .ok (.ifCond .eq 26, 3) := by decide +kernel
theorem dX6_next_8 : decode cX6_next 8 = .ok (.iload_n 3, 1) := by decide +kernel
theorem dX6_next_9 : decode cX6_next 9 = .ok (.sipush (-1000), 3) := by decide +kernel
theorem dX6_next_12 : decode cX6_next 12 = .ok (.if_icmp .lt 19, 3) := by decide +kernel
theorem dX6_next_15 : decode cX6_next 15 = .ok (.iload_n 3, 1) := by decide +kernel
theorem dX6_next_16 : decode cX6_next 16 = .ok (.sipush 1000, 3) := by decide +kernel
theorem dX6_next_19 : decode cX6_next 19 = .ok (.if_icmp .gt 12, 3) := by decide +kernel
theorem dX6_next_22 : decode cX6_next 22 = .ok (.iload_n 3, 1) := by decide +kernel
theorem dX6_next_23 : decode cX6_next 23 = .ok (.iload_n 2, 1) := by decide +kernel
theorem dX6_next_24 : decode cX6_next 24 = .ok (.invokestatic 208, 3) := by decide +kernel
theorem dX6_next_27 : decode cX6_next 27 = .ok (.iconst 1, 1) := by decide +kernel
theorem dX6_next_28 : decode cX6_next 28 = .ok (.if_icmp .eq 6, 3) := by decide +kernel
theorem dX6_next_31 : decode cX6_next 31 = .ok (.ldc 68, 2) := by decide +kernel
theorem dX6_next_33 : decode cX6_next 33 = .ok (.ireturn, 1) := by decide +kernel
theorem dX6_next_34 : decode cX6_next 34 = .ok (.iload_n 1, 1) := by decide +kernel
theorem dX6_next_35 : decode cX6_next 35 = .ok (.iload_n 2, 1) := by decide +kernel
theorem dX6_next_36 : decode cX6_next 36 = .ok (.iload_n 3, 1) := by decide +kernel
theorem dX6_next_37 : decode cX6_next 37 = .ok (.invokestatic 211, 3) := by decide +kernel
theorem dX6_next_40 : decode cX6_next 40 = .ok (.ireturn, 1) := by decide +kernel
theorem dX6_count_0 : decode cX6_count 0 = .ok (.iload_n 1, 1) := by decide +kernel
theorem dX6_count_1 : decode cX6_count 1 = .ok (.tableswitch 93 0 7 #[47, 52, 58, 64, 70, 76, 82, 88], 47) := by decide +kernel
theorem dX6_count_48 : decode cX6_count 48 = .ok (.aload_n 0, 1) := by decide +kernel
theorem dX6_count_49 : decode cX6_count 49 = .ok (.invokevirtual 215, 3) := by decide +kernel
theorem dX6_count_52 : decode cX6_count 52 = .ok (.ireturn, 1) := by decide +kernel
theorem dX6_count_53 : decode cX6_count 53 = .ok (.aload_n 0, 1) := by decide +kernel
theorem dX6_count_54 : decode cX6_count 54 = .ok (.iconst 0, 1) := by decide +kernel
theorem dX6_count_55 : decode cX6_count 55 = .ok (.invokevirtual 219, 3) := by decide +kernel
theorem dX6_count_58 : decode cX6_count 58 = .ok (.ireturn, 1) := by decide +kernel
theorem dX6_count_59 : decode cX6_count 59 = .ok (.aload_n 0, 1) := by decide +kernel
theorem dX6_count_60 : decode cX6_count 60 = .ok (.iconst 1, 1) := by decide +kernel
theorem dX6_count_61 : decode cX6_count 61 = .ok (.invokevirtual 219, 3) := by decide +kernel
theorem dX6_count_64 : decode cX6_count 64 = .ok (.ireturn, 1) := by decide +kernel
theorem dX6_count_65 : decode cX6_count 65 = .ok (.aload_n 0, 1) := by decide +kernel
theorem dX6_count_66 : decode cX6_count 66 = .ok (.iconst 2, 1) := by decide +kernel
theorem dX6_count_67 : decode cX6_count 67 = .ok (.invokevirtual 219, 3) := by decide +kernel
theorem dX6_count_70 : decode cX6_count 70 = .ok (.ireturn, 1) := by decide +kernel
theorem dX6_count_71 : decode cX6_count 71 = .ok (.aload_n 0, 1) := by decide +kernel
theorem dX6_count_72 : decode cX6_count 72 = .ok (.iconst 3, 1) := by decide +kernel
theorem dX6_count_73 : decode cX6_count 73 = .ok (.invokevirtual 219, 3) := by decide +kernel
theorem dX6_count_76 : decode cX6_count 76 = .ok (.ireturn, 1) := by decide +kernel
theorem dX6_count_77 : decode cX6_count 77 = .ok (.aload_n 0, 1) := by decide +kernel
theorem dX6_count_78 : decode cX6_count 78 = .ok (.iconst 4, 1) := by decide +kernel
theorem dX6_count_79 : decode cX6_count 79 = .ok (.invokevirtual 219, 3) := by decide +kernel
theorem dX6_count_82 : decode cX6_count 82 = .ok (.ireturn, 1) := by decide +kernel
theorem dX6_count_83 : decode cX6_count 83 = .ok (.aload_n 0, 1) := by decide +kernel
theorem dX6_count_84 : decode cX6_count 84 = .ok (.iconst 5, 1) := by decide +kernel
theorem dX6_count_85 : decode cX6_count 85 = .ok (.invokevirtual 219, 3) := by decide +kernel
theorem dX6_count_88 : decode cX6_count 88 = .ok (.ireturn, 1) := by decide +kernel
theorem dX6_count_89 : decode cX6_count 89 = .ok (.aload_n 0, 1) := by decide +kernel
theorem dX6_count_90 : decode cX6_count 90 = .ok (.getfield 13, 3) := by decide +kernel
theorem dX6_count_93 : decode cX6_count 93 = .ok (.ireturn, 1) := by decide +kernel
theorem dX6_count_94 : decode cX6_count 94 = .ok (.ldc 68, 2) := by decide +kernel
theorem dX6_count_96 : decode cX6_count 96 = .ok (.ireturn, 1) := by decide +kernel
theorem dX6_status_0 : decode cX6_status 0 = .ok (.aload_n 0, 1) := by decide +kernel
theorem dX6_status_1 : decode cX6_status 1 = .ok (.getfield 62, 3) := by decide +kernel
theorem dX6_status_4 : decode cX6_status 4 = .ok (.ireturn, 1) := by decide +kernel
theorem dX6_found_0 : decode cX6_found 0 = .ok (.aload_n 0, 1) := by decide +kernel
theorem dX6_found_1 : decode cX6_found 1 = .ok (.iload_n 1, 1) := by decide +kernel
theorem dX6_found_2 : decode cX6_found 2 = .ok (.putfield 62, 3) := by decide +kernel
theorem dX6_found_5 : decode cX6_found 5 = .ok (.ldc 222, 2) := by decide +kernel
theorem dX6_found_7 : decode cX6_found 7 = .ok (.iload_n 1, 1) := by decide +kernel
theorem dX6_found_8 : decode cX6_found 8 = .ok (.isub, 1) := by decide +kernel
theorem dX6_found_9 : decode cX6_found 9 = .ok (.ireturn, 1) := by decide +kernel
theorem dX6_fine_0 : decode cX6_fine 0 = .ok (.aload_n 0, 1) := by decide +kernel
theorem dX6_fine_1 : decode cX6_fine 1 = .ok (.iconst 0, 1) := by decide +kernel
theorem dX6_fine_2 : decode cX6_fine 2 = .ok (.putfield 62, 3) := by decide +kernel
theorem dX6_fine_5 : decode cX6_fine 5 = .ok (.iload_n 1, 1) := by decide +kernel
theorem dX6_fine_6 : decode cX6_fine 6 = .ok (.ireturn, 1) := by decide +kernel
theorem dX6_put_0 : decode cX6_put 0 = .ok (.new 23, 3) := by decide +kernel
theorem dX6_put_3 : decode cX6_put 3 = .ok (.dup, 1) := by decide +kernel
theorem dX6_put_4 : decode cX6_put 4 = .ok (.aload_n 2, 1) := by decide +kernel
theorem dX6_put_5 : decode cX6_put 5 = .ok (.aload_n 0, 1) := by decide +kernel
theorem dX6_put_6 : decode cX6_put 6 = .ok (.getfield 13, 3) := by decide +kernel
theorem dX6_put_9 : decode cX6_put 9 = .ok (.invokespecial 223, 3) := by decide +kernel
theorem dX6_put_12 : decode cX6_put 12 = .ok (.astore_n 3, 1) := by decide +kernel
theorem dX6_put_13 : decode cX6_put 13 = .ok (.aload_n 0, 1) := by decide +kernel
theorem dX6_put_14 : decode cX6_put 14 = .ok (.getfield 25, 3) := by decide +kernel
theorem dX6_put_17 : decode cX6_put 17 = .ok (.iload_n 1, 1) := by decide +kernel
theorem dX6_put_18 : decode cX6_put 18 = .ok (.aload_n 3, 1) := by decide +kernel
theorem dX6_put_19 : decode cX6_put 19 = .ok (.aastore, 1) := by decide +kernel
theorem dX6_put_20 : decode cX6_put 20 = .ok (.aload_n 0, 1) := by decide +kernel
theorem dX6_put_21 : decode cX6_put 21 = .ok (.aload_n 3, 1) := by decide +kernel
theorem dX6_put_22 : decode cX6_put 22 = .ok (.getfield 133, 3) := by decide +kernel
theorem dX6_put_25 : decode cX6_put 25 = .ok (.invokevirtual 76, 3) := by decide +kernel
theorem dX6_put_28 : decode cX6_put 28 = .ok (.ireturn, 1) := by decide +kernel
theorem dX6_roadsOf_0 : decode cX6_roadsOf 0 = .ok (.aload_n 0, 1) := by decide +kernel
theorem dX6_roadsOf_1 : decode cX6_roadsOf 1 = .ok (.getfield 38, 3) := by decide +kernel
theorem dX6_roadsOf_4 : decode cX6_roadsOf 4 = .ok (.aload_n 1, 1) := by decide +kernel
theorem dX6_roadsOf_5 : decode cX6_roadsOf 5 = .ok (.invokevirtual 142, 3) := by decide +kernel
theorem dX6_roadsOf_8 : decode cX6_roadsOf 8 = .ok (.aload_n 0, 1) := by decide +kernel
theorem dX6_roadsOf_9 : decode cX6_roadsOf 9 = .ok (.getfield 38, 3) := by decide +kernel
theorem dX6_roadsOf_12 : decode cX6_roadsOf 12 = .ok (.areturn, 1) := by decide +kernel
theorem dX6_isPoint_0 : decode cX6_isPoint 0 = .ok (.iload_n 1, 1) := by decide +kernel
theorem dX6_isPoint_1 : decode cX6_isPoint 1 = .ok (.ifCond .lt 15, 3) := by decide +kernel
theorem dX6_isPoint_4 : decode cX6_isPoint 4 = .ok (.iload_n 1, 1) := by decide +kernel
theorem dX6_isPoint_5 : decode cX6_isPoint 5 = .ok (.aload_n 0, 1) := by decide +kernel
theorem dX6_isPoint_6 : decode cX6_isPoint 6 = .ok (.getfield 13, 3) := by decide +kernel
theorem dX6_isPoint_9 : decode cX6_isPoint 9 = .ok (.if_icmp .ge 7, 3) := by decide +kernel
theorem dX6_isPoint_12 : decode cX6_isPoint 12 = .ok (.iconst 1, 1) := by decide +kernel
theorem dX6_isPoint_13 : decode cX6_isPoint 13 = .ok (.goto 4, 3) := by decide +kernel
theorem dX6_isPoint_16 : decode cX6_isPoint 16 = .ok (.iconst 0, 1) := by decide +kernel
theorem dX6_isPoint_17 : decode cX6_isPoint 17 = .ok (.ireturn, 1) := by decide +kernel
theorem dX6_sheetsThere_0 : decode cX6_sheetsThere 0 = .ok (.iconst 0, 1) := by decide +kernel
theorem dX6_sheetsThere_1 : decode cX6_sheetsThere 1 = .ok (.istore_n 1, 1) := by decide +kernel
theorem dX6_sheetsThere_2 : decode cX6_sheetsThere 2 = .ok (.aload_n 0, 1) := by decide +kernel
theorem dX6_sheetsThere_3 : decode cX6_sheetsThere 3 = .ok (.getfield 19, 3) := by decide +kernel
theorem dX6_sheetsThere_6 : decode cX6_sheetsThere 6 = .ok (.astore_n 2, 1) := by decide +kernel
theorem dX6_sheetsThere_7 : decode cX6_sheetsThere 7 = .ok (.aload_n 2, 1) := by decide +kernel
theorem dX6_sheetsThere_8 : decode cX6_sheetsThere 8 = .ok (.arraylength, 1) := by decide +kernel
theorem dX6_sheetsThere_9 : decode cX6_sheetsThere 9 = .ok (.istore_n 3, 1) := by decide +kernel
theorem dX6_sheetsThere_10 : decode cX6_sheetsThere 10 = .ok (.iconst 0, 1) := by decide +kernel
theorem dX6_sheetsThere_11 : decode cX6_sheetsThere 11 = .ok (.istore 4, 2) := by decide +kernel
theorem dX6_sheetsThere_13 : decode cX6_sheetsThere 13 = .ok (.iload 4, 2) := by decide +kernel
theorem dX6_sheetsThere_15 : decode cX6_sheetsThere 15 = .ok (.iload_n 3, 1) := by decide +kernel
theorem dX6_sheetsThere_16 : decode cX6_sheetsThere 16 = .ok (.if_icmp .ge 23, 3) := by decide +kernel
theorem dX6_sheetsThere_19 : decode cX6_sheetsThere 19 = .ok (.aload_n 2, 1) := by decide +kernel
theorem dX6_sheetsThere_20 : decode cX6_sheetsThere 20 = .ok (.iload 4, 2) := by decide +kernel
theorem dX6_sheetsThere_22 : decode cX6_sheetsThere 22 = .ok (.aaload, 1) := by decide +kernel
theorem dX6_sheetsThere_23 : decode cX6_sheetsThere 23 = .ok (.astore 5, 2) := by decide +kernel
theorem dX6_sheetsThere_25 : decode cX6_sheetsThere 25 = .ok (.aload 5, 2) := by decide +kernel
theorem dX6_sheetsThere_27 : decode cX6_sheetsThere 27 = .ok (.ifnull 6, 3) := by decide +kernel
theorem dX6_sheetsThere_30 : decode cX6_sheetsThere 30 = .ok (.iinc 1 1, 3) := by decide +kernel
theorem dX6_sheetsThere_33 : decode cX6_sheetsThere 33 = .ok (.iinc 4 1, 3) := by decide +kernel
theorem dX6_sheetsThere_36 : decode cX6_sheetsThere 36 = .ok (.goto (-23), 3) := by decide +kernel
theorem dX6_sheetsThere_39 : decode cX6_sheetsThere 39 = .ok (.iload_n 1, 1) := by decide +kernel
theorem dX6_sheetsThere_40 : decode cX6_sheetsThere 40 = .ok (.ireturn, 1) := by decide +kernel
theorem dX6_mapsOf_0 : decode cX6_mapsOf 0 = .ok (.iconst 0, 1) := by decide +kernel
theorem dX6_mapsOf_1 : decode cX6_mapsOf 1 = .ok (.istore_n 2, 1) := by decide +kernel
theorem dX6_mapsOf_2 : decode cX6_mapsOf 2 = .ok (.aload_n 0, 1) := by decide +kernel
theorem dX6_mapsOf_3 : decode cX6_mapsOf 3 = .ok (.getfield 25, 3) := by decide +kernel
theorem dX6_mapsOf_6 : decode cX6_mapsOf 6 = .ok (.astore_n 3, 1) := by decide +kernel
theorem dX6_mapsOf_7 : decode cX6_mapsOf 7 = .ok (.aload_n 3, 1) := by decide +kernel
theorem dX6_mapsOf_8 : decode cX6_mapsOf 8 = .ok (.arraylength, 1) := by decide +kernel
theorem dX6_mapsOf_9 : decode cX6_mapsOf 9 = .ok (.istore 4, 2) := by decide +kernel
theorem dX6_mapsOf_11 : decode cX6_mapsOf 11 = .ok (.iconst 0, 1) := by decide +kernel
theorem dX6_mapsOf_12 : decode cX6_mapsOf 12 = .ok (.istore 5, 2) := by decide +kernel
theorem dX6_mapsOf_14 : decode cX6_mapsOf 14 = .ok (.iload 5, 2) := by decide +kernel
theorem dX6_mapsOf_16 : decode cX6_mapsOf 16 = .ok (.iload 4, 2) := by decide +kernel
theorem dX6_mapsOf_18 : decode cX6_mapsOf 18 = .ok (.if_icmp .ge 32, 3) := by decide +kernel
theorem dX6_mapsOf_21 : decode cX6_mapsOf 21 = .ok (.aload_n 3, 1) := by decide +kernel
theorem dX6_mapsOf_22 : decode cX6_mapsOf 22 = .ok (.iload 5, 2) := by decide +kernel
theorem dX6_mapsOf_24 : decode cX6_mapsOf 24 = .ok (.aaload, 1) := by decide +kernel
theorem dX6_mapsOf_25 : decode cX6_mapsOf 25 = .ok (.astore 6, 2) := by decide +kernel
theorem dX6_mapsOf_27 : decode cX6_mapsOf 27 = .ok (.aload 6, 2) := by decide +kernel
theorem dX6_mapsOf_29 : decode cX6_mapsOf 29 = .ok (.ifnull 15, 3) := by decide +kernel
theorem dX6_mapsOf_32 : decode cX6_mapsOf 32 = .ok (.aload 6, 2) := by decide +kernel
theorem dX6_mapsOf_34 : decode cX6_mapsOf 34 = .ok (.iload_n 1, 1) := by decide +kernel
theorem dX6_mapsOf_35 : decode cX6_mapsOf 35 = .ok (.invokevirtual 139, 3) := by decide +kernel
theorem dX6_mapsOf_38 : decode cX6_mapsOf 38 = .ok (.ifCond .eq 6, 3) := by decide +kernel
theorem dX6_mapsOf_41 : decode cX6_mapsOf 41 = .ok (.iinc 2 1, 3) := by decide +kernel
theorem dX6_mapsOf_44 : decode cX6_mapsOf 44 = .ok (.iinc 5 1, 3) := by decide +kernel
theorem dX6_mapsOf_47 : decode cX6_mapsOf 47 = .ok (.goto (-33), 3) := by decide +kernel
theorem dX6_mapsOf_50 : decode cX6_mapsOf 50 = .ok (.iload_n 2, 1) := by decide +kernel
theorem dX6_mapsOf_51 : decode cX6_mapsOf 51 = .ok (.ireturn, 1) := by decide +kernel
theorem dX6_isSheet_0 : decode cX6_isSheet 0 = .ok (.iload_n 0, 1) := by decide +kernel
theorem dX6_isSheet_1 : decode cX6_isSheet 1 = .ok (.ifCond .lt 13, 3) := by decide +kernel
theorem dX6_isSheet_4 : decode cX6_isSheet 4 = .ok (.iload_n 0, 1) := by decide +kernel
theorem dX6_isSheet_5 : decode cX6_isSheet 5 = .ok (.bipush 8, 2) := by decide +kernel
theorem dX6_isSheet_7 : decode cX6_isSheet 7 = .ok (.if_icmp .ge 7, 3) := by decide +kernel
theorem dX6_isSheet_10 : decode cX6_isSheet 10 = .ok (.iconst 1, 1) := by decide +kernel
theorem dX6_isSheet_11 : decode cX6_isSheet 11 = .ok (.goto 4, 3) := by decide +kernel
theorem dX6_isSheet_14 : decode cX6_isSheet 14 = .ok (.iconst 0, 1) := by decide +kernel
theorem dX6_isSheet_15 : decode cX6_isSheet 15 = .ok (.ireturn, 1) := by decide +kernel
theorem dX6_isPlace_0 : decode cX6_isPlace 0 = .ok (.iload_n 0, 1) := by decide +kernel
theorem dX6_isPlace_1 : decode cX6_isPlace 1 = .ok (.ifCond .lt 13, 3) := by decide +kernel
theorem dX6_isPlace_4 : decode cX6_isPlace 4 = .ok (.iload_n 0, 1) := by decide +kernel
theorem dX6_isPlace_5 : decode cX6_isPlace 5 = .ok (.bipush 10, 2) := by decide +kernel
theorem dX6_isPlace_7 : decode cX6_isPlace 7 = .ok (.if_icmp .ge 7, 3) := by decide +kernel
theorem dX6_isPlace_10 : decode cX6_isPlace 10 = .ok (.iconst 1, 1) := by decide +kernel
theorem dX6_isPlace_11 : decode cX6_isPlace 11 = .ok (.goto 4, 3) := by decide +kernel
theorem dX6_isPlace_14 : decode cX6_isPlace 14 = .ok (.iconst 0, 1) := by decide +kernel
theorem dX6_isPlace_15 : decode cX6_isPlace 15 = .ok (.ireturn, 1) := by decide +kernel
theorem dX6_isKind_0 : decode cX6_isKind 0 = .ok (.iload_n 0, 1) := by decide +kernel
theorem dX6_isKind_1 : decode cX6_isKind 1 = .ok (.ifCond .lt 12, 3) := by decide +kernel
theorem dX6_isKind_4 : decode cX6_isKind 4 = .ok (.iload_n 0, 1) := by decide +kernel
theorem dX6_isKind_5 : decode cX6_isKind 5 = .ok (.iconst 5, 1) := by decide +kernel
theorem dX6_isKind_6 : decode cX6_isKind 6 = .ok (.if_icmp .gt 7, 3) := by decide +kernel
theorem dX6_isKind_9 : decode cX6_isKind 9 = .ok (.iconst 1, 1) := by decide +kernel
theorem dX6_isKind_10 : decode cX6_isKind 10 = .ok (.goto 4, 3) := by decide +kernel
theorem dX6_isKind_13 : decode cX6_isKind 13 = .ok (.iconst 0, 1) := by decide +kernel
theorem dX6_isKind_14 : decode cX6_isKind 14 = .ok (.ireturn, 1) := by decide +kernel
theorem dX6_isPair_0 : decode cX6_isPair 0 = .ok (.iload_n 0, 1) := by decide +kernel
theorem dX6_isPair_1 : decode cX6_isPair 1 = .ok (.sipush (-10000), 3) := by decide +kernel
theorem dX6_isPair_4 : decode cX6_isPair 4 = .ok (.if_icmp .lt 34, 3) := by decide +kernel
theorem dX6_isPair_7 : decode cX6_isPair 7 = .ok (.iload_n 0, 1) := by decide +kernel
theorem dX6_isPair_8 : decode cX6_isPair 8 = .ok (.sipush 10000, 3) := by decide +kernel
theorem dX6_isPair_11 : decode cX6_isPair 11 = .ok (.if_icmp .gt 27, 3) := by decide +kernel
theorem dX6_isPair_14 : decode cX6_isPair 14 = .ok (.iload_n 1, 1) := by decide +kernel
theorem dX6_isPair_15 : decode cX6_isPair 15 = .ok (.iconst 1, 1) := by decide +kernel
theorem dX6_isPair_16 : decode cX6_isPair 16 = .ok (.if_icmp .lt 22, 3) := by decide +kernel
theorem dX6_isPair_19 : decode cX6_isPair 19 = .ok (.iload_n 1, 1) := by decide +kernel
theorem dX6_isPair_20 : decode cX6_isPair 20 = .ok (.bipush 30, 2) := by decide +kernel
theorem dX6_isPair_22 : decode cX6_isPair 22 = .ok (.if_icmp .gt 16, 3) := by decide +kernel
theorem dX6_isPair_25 : decode cX6_isPair 25 = .ok (.iload_n 0, 1) := by decide +kernel
theorem dX6_isPair_26 : decode cX6_isPair 26 = .ok (.iload_n 1, 1) := by decide +kernel
theorem dX6_isPair_27 : decode cX6_isPair 27 = .ok (.invokestatic 208, 3) := by decide +kernel
theorem dX6_isPair_30 : decode cX6_isPair 30 = .ok (.iconst 1, 1) := by decide +kernel
theorem dX6_isPair_31 : decode cX6_isPair 31 = .ok (.if_icmp .ne 7, 3) := by decide +kernel
theorem dX6_isPair_34 : decode cX6_isPair 34 = .ok (.iconst 1, 1) := by decide +kernel
theorem dX6_isPair_35 : decode cX6_isPair 35 = .ok (.goto 4, 3) := by decide +kernel
theorem dX6_isPair_38 : decode cX6_isPair 38 = .ok (.iconst 0, 1) := by decide +kernel
theorem dX6_isPair_39 : decode cX6_isPair 39 = .ok (.ireturn, 1) := by decide +kernel
theorem dX6_isPrimeHere_0 : decode cX6_isPrimeHere 0 = .ok (.iload_n 0, 1) := by decide +kernel
theorem dX6_isPrimeHere_1 : decode cX6_isPrimeHere 1 = .ok (.iconst 3, 1) := by decide +kernel
theorem dX6_isPrimeHere_2 : decode cX6_isPrimeHere 2 = .ok (.if_icmp .lt 10, 3) := by decide +kernel
theorem dX6_isPrimeHere_5 : decode cX6_isPrimeHere 5 = .ok (.iload_n 0, 1) := by decide +kernel
theorem dX6_isPrimeHere_6 : decode cX6_isPrimeHere 6 = .ok (.sipush 199, 3) := by decide +kernel
theorem dX6_isPrimeHere_9 : decode cX6_isPrimeHere 9 = .ok (.if_icmp .le 5, 3) := by decide +kernel
theorem dX6_isPrimeHere_12 : decode cX6_isPrimeHere 12 = .ok (.iconst 0, 1) := by decide +kernel
theorem dX6_isPrimeHere_13 : decode cX6_isPrimeHere 13 = .ok (.ireturn, 1) := by decide +kernel
theorem dX6_isPrimeHere_14 : decode cX6_isPrimeHere 14 = .ok (.iconst 2, 1) := by decide +kernel
theorem dX6_isPrimeHere_15 : decode cX6_isPrimeHere 15 = .ok (.istore_n 1, 1) := by decide +kernel
theorem dX6_isPrimeHere_16 : decode cX6_isPrimeHere 16 = .ok (.iload_n 1, 1) := by decide +kernel
theorem dX6_isPrimeHere_17 : decode cX6_isPrimeHere 17 = .ok (.iload_n 1, 1) := by decide +kernel
theorem dX6_isPrimeHere_18 : decode cX6_isPrimeHere 18 = .ok (.imul, 1) := by decide +kernel
theorem dX6_isPrimeHere_19 : decode cX6_isPrimeHere 19 = .ok (.iload_n 0, 1) := by decide +kernel
theorem dX6_isPrimeHere_20 : decode cX6_isPrimeHere 20 = .ok (.if_icmp .gt 17, 3) := by decide +kernel
theorem dX6_isPrimeHere_23 : decode cX6_isPrimeHere 23 = .ok (.iload_n 0, 1) := by decide +kernel
theorem dX6_isPrimeHere_24 : decode cX6_isPrimeHere 24 = .ok (.iload_n 1, 1) := by decide +kernel
theorem dX6_isPrimeHere_25 : decode cX6_isPrimeHere 25 = .ok (.irem, 1) := by decide +kernel
theorem dX6_isPrimeHere_26 : decode cX6_isPrimeHere 26 = .ok (.ifCond .ne 5, 3) := by decide +kernel
theorem dX6_isPrimeHere_29 : decode cX6_isPrimeHere 29 = .ok (.iconst 0, 1) := by decide +kernel
theorem dX6_isPrimeHere_30 : decode cX6_isPrimeHere 30 = .ok (.ireturn, 1) := by decide +kernel
theorem dX6_isPrimeHere_31 : decode cX6_isPrimeHere 31 = .ok (.iinc 1 1, 3) := by decide +kernel
theorem dX6_isPrimeHere_34 : decode cX6_isPrimeHere 34 = .ok (.goto (-18), 3) := by decide +kernel
theorem dX6_isPrimeHere_37 : decode cX6_isPrimeHere 37 = .ok (.iconst 1, 1) := by decide +kernel
theorem dX6_isPrimeHere_38 : decode cX6_isPrimeHere 38 = .ok (.ireturn, 1) := by decide +kernel
theorem dX6_commonDivisor_0 : decode cX6_commonDivisor 0 = .ok (.iload_n 0, 1) := by decide +kernel
theorem dX6_commonDivisor_1 : decode cX6_commonDivisor 1 = .ok (.invokestatic 226, 3) := by decide +kernel
theorem dX6_commonDivisor_4 : decode cX6_commonDivisor 4 = .ok (.istore_n 2, 1) := by decide +kernel
theorem dX6_commonDivisor_5 : decode cX6_commonDivisor 5 = .ok (.iload_n 1, 1) := by decide +kernel
theorem dX6_commonDivisor_6 : decode cX6_commonDivisor 6 = .ok (.invokestatic 226, 3) := by decide +kernel
theorem dX6_commonDivisor_9 : decode cX6_commonDivisor 9 = .ok (.istore_n 3, 1) := by decide +kernel
theorem dX6_commonDivisor_10 : decode cX6_commonDivisor 10 = .ok (.iconst 0, 1) := by decide +kernel
theorem dX6_commonDivisor_11 : decode cX6_commonDivisor 11 = .ok (.istore 4, 2) := by decide +kernel
theorem dX6_commonDivisor_13 : decode cX6_commonDivisor 13 = .ok (.iload 4, 2) := by decide +kernel
theorem dX6_commonDivisor_15 : decode cX6_commonDivisor 15 = .ok (.bipush 100, 2) := by decide +kernel
theorem dX6_commonDivisor_17 : decode cX6_commonDivisor 17 = .ok (.if_icmp .ge 23, 3) := by decide +kernel
theorem dX6_commonDivisor_20 : decode cX6_commonDivisor 20 = .ok (.iload_n 3, 1) := by decide +kernel
theorem dX6_commonDivisor_21 : decode cX6_commonDivisor 21 = .ok (.ifCond .eq 19, 3) := by decide +kernel
theorem dX6_commonDivisor_24 : decode cX6_commonDivisor 24 = .ok (.iload_n 2, 1) := by decide +kernel
theorem dX6_commonDivisor_25 : decode cX6_commonDivisor 25 = .ok (.iload_n 3, 1) := by decide +kernel
theorem dX6_commonDivisor_26 : decode cX6_commonDivisor 26 = .ok (.irem, 1) := by decide +kernel
theorem dX6_commonDivisor_27 : decode cX6_commonDivisor 27 = .ok (.istore 5, 2) := by decide +kernel
theorem dX6_commonDivisor_29 : decode cX6_commonDivisor 29 = .ok (.iload_n 3, 1) := by decide +kernel
theorem dX6_commonDivisor_30 : decode cX6_commonDivisor 30 = .ok (.istore_n 2, 1) := by decide +kernel
theorem dX6_commonDivisor_31 : decode cX6_commonDivisor 31 = .ok (.iload 5, 2) := by decide +kernel
theorem dX6_commonDivisor_33 : decode cX6_commonDivisor 33 = .ok (.istore_n 3, 1) := by decide +kernel
theorem dX6_commonDivisor_34 : decode cX6_commonDivisor 34 = .ok (.iinc 4 1, 3) := by decide +kernel
theorem dX6_commonDivisor_37 : decode cX6_commonDivisor 37 = .ok (.goto (-24), 3) := by decide +kernel
theorem dX6_commonDivisor_40 : decode cX6_commonDivisor 40 = .ok (.iload_n 2, 1) := by decide +kernel
theorem dX6_commonDivisor_41 : decode cX6_commonDivisor 41 = .ok (.ireturn, 1) := by decide +kernel
theorem dX6_inverse_0 : decode cX6_inverse 0 = .ok (.iconst 1, 1) := by decide +kernel
theorem dX6_inverse_1 : decode cX6_inverse 1 = .ok (.istore_n 2, 1) := by decide +kernel
theorem dX6_inverse_2 : decode cX6_inverse 2 = .ok (.iload_n 2, 1) := by decide +kernel
theorem dX6_inverse_3 : decode cX6_inverse 3 = .ok (.iload_n 1, 1) := by decide +kernel
theorem dX6_inverse_4 : decode cX6_inverse 4 = .ok (.if_icmp .ge 20, 3) := by decide +kernel
theorem dX6_inverse_7 : decode cX6_inverse 7 = .ok (.iload_n 0, 1) := by decide +kernel
theorem dX6_inverse_8 : decode cX6_inverse 8 = .ok (.iload_n 2, 1) := by decide +kernel
theorem dX6_inverse_9 : decode cX6_inverse 9 = .ok (.imul, 1) := by decide +kernel
theorem dX6_inverse_10 : decode cX6_inverse 10 = .ok (.iload_n 1, 1) := by decide +kernel
theorem dX6_inverse_11 : decode cX6_inverse 11 = .ok (.irem, 1) := by decide +kernel
theorem dX6_inverse_12 : decode cX6_inverse 12 = .ok (.iconst 1, 1) := by decide +kernel
theorem dX6_inverse_13 : decode cX6_inverse 13 = .ok (.if_icmp .ne 5, 3) := by decide +kernel
theorem dX6_inverse_16 : decode cX6_inverse 16 = .ok (.iload_n 2, 1) := by decide +kernel
theorem dX6_inverse_17 : decode cX6_inverse 17 = .ok (.ireturn, 1) := by decide +kernel
theorem dX6_inverse_18 : decode cX6_inverse 18 = .ok (.iinc 2 1, 3) := by decide +kernel
theorem dX6_inverse_21 : decode cX6_inverse 21 = .ok (.goto (-19), 3) := by decide +kernel
theorem dX6_inverse_24 : decode cX6_inverse 24 = .ok (.iconst 0, 1) := by decide +kernel
theorem dX6_inverse_25 : decode cX6_inverse 25 = .ok (.ireturn, 1) := by decide +kernel
theorem dX6_sizeAsked_0 : decode cX6_sizeAsked 0 = .ok (.aload_n 1, 1) := by decide +kernel
theorem dX6_sizeAsked_1 : decode cX6_sizeAsked 1 = .ok (.getfield 133, 3) := by decide +kernel
theorem dX6_sizeAsked_4 : decode cX6_sizeAsked 4 = .ok (.tableswitch 44 2 4 #[28, 33, 38], 28) := by decide +kernel
theorem dX6_sizeAsked_32 : decode cX6_sizeAsked 32 = .ok (.aload_n 0, 1) := by decide +kernel
theorem dX6_sizeAsked_33 : decode cX6_sizeAsked 33 = .ok (.invokevirtual 229, 3) := by decide +kernel
theorem dX6_sizeAsked_36 : decode cX6_sizeAsked 36 = .ok (.ireturn, 1) := by decide +kernel
theorem dX6_sizeAsked_37 : decode cX6_sizeAsked 37 = .ok (.aload_n 0, 1) := by decide +kernel
theorem dX6_sizeAsked_38 : decode cX6_sizeAsked 38 = .ok (.invokevirtual 232, 3) := by decide +kernel
theorem dX6_sizeAsked_41 : decode cX6_sizeAsked 41 = .ok (.ireturn, 1) := by decide +kernel
theorem dX6_sizeAsked_42 : decode cX6_sizeAsked 42 = .ok (.aload_n 0, 1) := by decide +kernel
theorem dX6_sizeAsked_43 : decode cX6_sizeAsked 43 = .ok (.aload_n 1, 1) := by decide +kernel
theorem dX6_sizeAsked_44 : decode cX6_sizeAsked 44 = .ok (.invokevirtual 235, 3) := by decide +kernel
theorem dX6_sizeAsked_47 : decode cX6_sizeAsked 47 = .ok (.ireturn, 1) := by decide +kernel
theorem dX6_sizeAsked_48 : decode cX6_sizeAsked 48 = .ok (.aload_n 0, 1) := by decide +kernel
theorem dX6_sizeAsked_49 : decode cX6_sizeAsked 49 = .ok (.invokevirtual 238, 3) := by decide +kernel
theorem dX6_sizeAsked_52 : decode cX6_sizeAsked 52 = .ok (.ireturn, 1) := by decide +kernel
theorem dX6_markAsked_0 : decode cX6_markAsked 0 = .ok (.aload_n 1, 1) := by decide +kernel
theorem dX6_markAsked_1 : decode cX6_markAsked 1 = .ok (.getfield 133, 3) := by decide +kernel
theorem dX6_markAsked_4 : decode cX6_markAsked 4 = .ok (.tableswitch 46 3 5 #[28, 34, 40], 28) := by decide +kernel
theorem dX6_markAsked_32 : decode cX6_markAsked 32 = .ok (.aload_n 0, 1) := by decide +kernel
theorem dX6_markAsked_33 : decode cX6_markAsked 33 = .ok (.aload_n 1, 1) := by decide +kernel
theorem dX6_markAsked_34 : decode cX6_markAsked 34 = .ok (.invokevirtual 241, 3) := by decide +kernel
theorem dX6_markAsked_37 : decode cX6_markAsked 37 = .ok (.ireturn, 1) := by decide +kernel
theorem dX6_markAsked_38 : decode cX6_markAsked 38 = .ok (.aload_n 0, 1) := by decide +kernel
theorem dX6_markAsked_39 : decode cX6_markAsked 39 = .ok (.aload_n 1, 1) := by decide +kernel
theorem dX6_markAsked_40 : decode cX6_markAsked 40 = .ok (.invokevirtual 244, 3) := by decide +kernel
theorem dX6_markAsked_43 : decode cX6_markAsked 43 = .ok (.ireturn, 1) := by decide +kernel
theorem dX6_markAsked_44 : decode cX6_markAsked 44 = .ok (.aload_n 0, 1) := by decide +kernel
theorem dX6_markAsked_45 : decode cX6_markAsked 45 = .ok (.aload_n 1, 1) := by decide +kernel
theorem dX6_markAsked_46 : decode cX6_markAsked 46 = .ok (.invokevirtual 247, 3) := by decide +kernel
theorem dX6_markAsked_49 : decode cX6_markAsked 49 = .ok (.ireturn, 1) := by decide +kernel
theorem dX6_markAsked_50 : decode cX6_markAsked 50 = .ok (.aload_n 0, 1) := by decide +kernel
theorem dX6_markAsked_51 : decode cX6_markAsked 51 = .ok (.aload_n 1, 1) := by decide +kernel
theorem dX6_markAsked_52 : decode cX6_markAsked 52 = .ok (.invokevirtual 250, 3) := by decide +kernel
theorem dX6_markAsked_55 : decode cX6_markAsked 55 = .ok (.ireturn, 1) := by decide +kernel
theorem dX6_begin_0 : decode cX6_begin 0 = .ok (.aload_n 0, 1) := by decide +kernel
theorem dX6_begin_1 : decode cX6_begin 1 = .ok (.getfield 59, 3) := by decide +kernel
theorem dX6_begin_4 : decode cX6_begin 4 = .ok (.aload_n 0, 1) := by decide +kernel
theorem dX6_begin_5 : decode cX6_begin 5 = .ok (.getfield 29, 3) := by decide +kernel
theorem dX6_begin_8 : decode cX6_begin 8 = .ok (.arraylength, 1) := by decide +kernel
theorem dX6_begin_9 : decode cX6_begin 9 = .ok (.if_icmp .ge 23, 3) := by decide +kernel
theorem dX6_begin_12 : decode cX6_begin 12 = .ok (.aload_n 0, 1) := by decide +kernel
theorem dX6_begin_13 : decode cX6_begin 13 = .ok (.getfield 29, 3) := by decide +kernel
theorem dX6_begin_16 : decode cX6_begin 16 = .ok (.aload_n 0, 1) := by decide +kernel
theorem dX6_begin_17 : decode cX6_begin 17 = .ok (.getfield 59, 3) := by decide +kernel
theorem dX6_begin_20 : decode cX6_begin 20 = .ok (.iload_n 1, 1) := by decide +kernel
theorem dX6_begin_21 : decode cX6_begin 21 = .ok (.iastore, 1) := by decide +kernel
theorem dX6_begin_22 : decode cX6_begin 22 = .ok (.aload_n 0, 1) := by decide +kernel
theorem dX6_begin_23 : decode cX6_begin 23 = .ok (.dup, 1) := by decide +kernel
theorem dX6_begin_24 : decode cX6_begin 24 = .ok (.getfield 59, 3) := by decide +kernel
theorem dX6_begin_27 : decode cX6_begin 27 = .ok (.iconst 1, 1) := by decide +kernel
theorem dX6_begin_28 : decode cX6_begin 28 = .ok (.iadd, 1) := by decide +kernel
theorem dX6_begin_29 : decode cX6_begin 29 = .ok (.putfield 59, 3) := by decide +kernel
theorem dX6_begin_32 : decode cX6_begin 32 = .ok (.return_, 1) := by decide +kernel
theorem dX6_body10_0 : decode cX6_body10 0 = .ok (.aload_n 0, 1) := by decide +kernel
theorem dX6_body10_1 : decode cX6_body10 1 = .ok (.bipush 10, 2) := by decide +kernel
theorem dX6_body10_3 : decode cX6_body10 3 = .ok (.invokevirtual 253, 3) := by decide +kernel
theorem dX6_body10_6 : decode cX6_body10 6 = .ok (.aload_n 0, 1) := by decide +kernel
theorem dX6_body10_7 : decode cX6_body10 7 = .ok (.getfield 13, 3) := by decide +kernel
theorem dX6_body10_10 : decode cX6_body10 10 = .ok (.aload_n 0, 1) := by decide +kernel
theorem dX6_body10_11 : decode cX6_body10 11 = .ok (.getfield 38, 3) := by decide +kernel
theorem dX6_body10_14 : decode cX6_body10 14 = .ok (.invokevirtual 256, 3) := by decide +kernel
theorem dX6_body10_17 : decode cX6_body10 17 = .ok (.isub, 1) := by decide +kernel
theorem dX6_body10_18 : decode cX6_body10 18 = .ok (.ireturn, 1) := by decide +kernel
theorem dX6_body11_0 : decode cX6_body11 0 = .ok (.aload_n 0, 1) := by decide +kernel
theorem dX6_body11_1 : decode cX6_body11 1 = .ok (.bipush 11, 2) := by decide +kernel
theorem dX6_body11_3 : decode cX6_body11 3 = .ok (.invokevirtual 253, 3) := by decide +kernel
theorem dX6_body11_6 : decode cX6_body11 6 = .ok (.aload_n 0, 1) := by decide +kernel
theorem dX6_body11_7 : decode cX6_body11 7 = .ok (.getfield 13, 3) := by decide +kernel
theorem dX6_body11_10 : decode cX6_body11 10 = .ok (.ireturn, 1) := by decide +kernel
theorem dX6_body12_0 : decode cX6_body12 0 = .ok (.aload_n 0, 1) := by decide +kernel
theorem dX6_body12_1 : decode cX6_body12 1 = .ok (.bipush 12, 2) := by decide +kernel
theorem dX6_body12_3 : decode cX6_body12 3 = .ok (.invokevirtual 253, 3) := by decide +kernel
theorem dX6_body12_6 : decode cX6_body12 6 = .ok (.iconst 2, 1) := by decide +kernel
theorem dX6_body12_7 : decode cX6_body12 7 = .ok (.aload_n 0, 1) := by decide +kernel
theorem dX6_body12_8 : decode cX6_body12 8 = .ok (.invokevirtual 238, 3) := by decide +kernel
theorem dX6_body12_11 : decode cX6_body12 11 = .ok (.imul, 1) := by decide +kernel
theorem dX6_body12_12 : decode cX6_body12 12 = .ok (.ireturn, 1) := by decide +kernel
theorem dX6_body13_0 : decode cX6_body13 0 = .ok (.aload_n 0, 1) := by decide +kernel
theorem dX6_body13_1 : decode cX6_body13 1 = .ok (.bipush 13, 2) := by decide +kernel
theorem dX6_body13_3 : decode cX6_body13 3 = .ok (.invokevirtual 253, 3) := by decide +kernel
theorem dX6_body13_6 : decode cX6_body13 6 = .ok (.aload_n 0, 1) := by decide +kernel
theorem dX6_body13_7 : decode cX6_body13 7 = .ok (.invokevirtual 232, 3) := by decide +kernel
theorem dX6_body13_10 : decode cX6_body13 10 = .ok (.istore_n 2, 1) := by decide +kernel
theorem dX6_body13_11 : decode cX6_body13 11 = .ok (.iload_n 2, 1) := by decide +kernel
theorem dX6_body13_12 : decode cX6_body13 12 = .ok (.aload_n 0, 1) := by decide +kernel
theorem dX6_body13_13 : decode cX6_body13 13 = .ok (.aload_n 1, 1) := by decide +kernel
theorem dX6_body13_14 : decode cX6_body13 14 = .ok (.invokevirtual 244, 3) := by decide +kernel
theorem dX6_body13_17 : decode cX6_body13 17 = .ok (.iadd, 1) := by decide +kernel
theorem dX6_body13_18 : decode cX6_body13 18 = .ok (.ireturn, 1) := by decide +kernel
theorem dX6_body20_0 : decode cX6_body20 0 = .ok (.aload_n 0, 1) := by decide +kernel
theorem dX6_body20_1 : decode cX6_body20 1 = .ok (.bipush 20, 2) := by decide +kernel
theorem dX6_body20_3 : decode cX6_body20 3 = .ok (.invokevirtual 253, 3) := by decide +kernel
theorem dX6_body20_6 : decode cX6_body20 6 = .ok (.aload_n 1, 1) := by decide +kernel
theorem dX6_body20_7 : decode cX6_body20 7 = .ok (.getfield 126, 3) := by decide +kernel
theorem dX6_body20_10 : decode cX6_body20 10 = .ok (.iconst 0, 1) := by decide +kernel
theorem dX6_body20_11 : decode cX6_body20 11 = .ok (.iaload, 1) := by decide +kernel
theorem dX6_body20_12 : decode cX6_body20 12 = .ok (.ireturn, 1) := by decide +kernel
theorem dX6_body21_0 : decode cX6_body21 0 = .ok (.aload_n 0, 1) := by decide +kernel
theorem dX6_body21_1 : decode cX6_body21 1 = .ok (.bipush 21, 2) := by decide +kernel
theorem dX6_body21_3 : decode cX6_body21 3 = .ok (.invokevirtual 253, 3) := by decide +kernel
theorem dX6_body21_6 : decode cX6_body21 6 = .ok (.aload_n 0, 1) := by decide +kernel
theorem dX6_body21_7 : decode cX6_body21 7 = .ok (.aload_n 1, 1) := by decide +kernel
theorem dX6_body21_8 : decode cX6_body21 8 = .ok (.invokevirtual 250, 3) := by decide +kernel
theorem dX6_body21_11 : decode cX6_body21 11 = .ok (.aload_n 0, 1) := by decide +kernel
theorem dX6_body21_12 : decode cX6_body21 12 = .ok (.getfield 13, 3) := by decide +kernel
theorem dX6_body21_15 : decode cX6_body21 15 = .ok (.iadd, 1) := by decide +kernel
theorem dX6_body21_16 : decode cX6_body21 16 = .ok (.ireturn, 1) := by decide +kernel
theorem dX6_body22_0 : decode cX6_body22 0 = .ok (.aload_n 0, 1) := by decide +kernel
theorem dX6_body22_1 : decode cX6_body22 1 = .ok (.bipush 22, 2) := by decide +kernel
theorem dX6_body22_3 : decode cX6_body22 3 = .ok (.invokevirtual 253, 3) := by decide +kernel
theorem dX6_body22_6 : decode cX6_body22 6 = .ok (.aload_n 0, 1) := by decide +kernel
theorem dX6_body22_7 : decode cX6_body22 7 = .ok (.aload_n 1, 1) := by decide +kernel
theorem dX6_body22_8 : decode cX6_body22 8 = .ok (.invokevirtual 241, 3) := by decide +kernel
theorem dX6_body22_11 : decode cX6_body22 11 = .ok (.istore_n 2, 1) := by decide +kernel
theorem dX6_body22_12 : decode cX6_body22 12 = .ok (.iload_n 2, 1) := by decide +kernel
theorem dX6_body22_13 : decode cX6_body22 13 = .ok (.aload_n 0, 1) := by decide +kernel
theorem dX6_body22_14 : decode cX6_body22 14 = .ok (.getfield 38, 3) := by decide +kernel
theorem dX6_body22_17 : decode cX6_body22 17 = .ok (.getfield 162, 3) := by decide +kernel
theorem dX6_body22_20 : decode cX6_body22 20 = .ok (.getfield 259, 3) := by decide +kernel
theorem dX6_body22_23 : decode cX6_body22 23 = .ok (.iconst 0, 1) := by decide +kernel
theorem dX6_body22_24 : decode cX6_body22 24 = .ok (.iaload, 1) := by decide +kernel
theorem dX6_body22_25 : decode cX6_body22 25 = .ok (.iadd, 1) := by decide +kernel
theorem dX6_body22_26 : decode cX6_body22 26 = .ok (.ireturn, 1) := by decide +kernel
theorem dX6_body23_0 : decode cX6_body23 0 = .ok (.aload_n 0, 1) := by decide +kernel
theorem dX6_body23_1 : decode cX6_body23 1 = .ok (.bipush 23, 2) := by decide +kernel
theorem dX6_body23_3 : decode cX6_body23 3 = .ok (.invokevirtual 253, 3) := by decide +kernel
theorem dX6_body23_6 : decode cX6_body23 6 = .ok (.aload_n 0, 1) := by decide +kernel
theorem dX6_body23_7 : decode cX6_body23 7 = .ok (.aload_n 1, 1) := by decide +kernel
theorem dX6_body23_8 : decode cX6_body23 8 = .ok (.invokevirtual 250, 3) := by decide +kernel
theorem dX6_body23_11 : decode cX6_body23 11 = .ok (.istore_n 2, 1) := by decide +kernel
theorem dX6_body23_12 : decode cX6_body23 12 = .ok (.iload_n 2, 1) := by decide +kernel
theorem dX6_body23_13 : decode cX6_body23 13 = .ok (.aload_n 0, 1) := by decide +kernel
theorem dX6_body23_14 : decode cX6_body23 14 = .ok (.invokevirtual 238, 3) := by decide +kernel
theorem dX6_body23_17 : decode cX6_body23 17 = .ok (.iadd, 1) := by decide +kernel
theorem dX6_body23_18 : decode cX6_body23 18 = .ok (.ireturn, 1) := by decide +kernel
theorem dJ9_floorMod_7cf53_0 : decode cJ9_floorMod_7cf53 0 = .ok (.iload_n 0, 1) := by decide +kernel
theorem dJ9_floorMod_7cf53_1 : decode cJ9_floorMod_7cf53 1 = .ok (.iload_n 1, 1) := by decide +kernel
theorem dJ9_floorMod_7cf53_2 : decode cJ9_floorMod_7cf53 2 = .ok (.irem, 1) := by decide +kernel
theorem dJ9_floorMod_7cf53_3 : decode cJ9_floorMod_7cf53 3 = .ok (.istore_n 2, 1) := by decide +kernel
theorem dJ9_floorMod_7cf53_4 : decode cJ9_floorMod_7cf53 4 = .ok (.iload_n 0, 1) := by decide +kernel
theorem dJ9_floorMod_7cf53_5 : decode cJ9_floorMod_7cf53 5 = .ok (.iload_n 1, 1) := by decide +kernel
theorem dJ9_floorMod_7cf53_6 : decode cJ9_floorMod_7cf53 6 = .ok (.ixor, 1) := by decide +kernel
theorem dJ9_floorMod_7cf53_7 : decode cJ9_floorMod_7cf53 7 = .ok (.ifCond .ge 11, 3) := by decide +kernel
theorem dJ9_floorMod_7cf53_10 : decode cJ9_floorMod_7cf53 10 = .ok (.iload_n 2, 1) := by decide +kernel
theorem dJ9_floorMod_7cf53_11 : decode cJ9_floorMod_7cf53 11 = .ok (.ifCond .eq 7, 3) := by decide +kernel
theorem dJ9_floorMod_7cf53_14 : decode cJ9_floorMod_7cf53 14 = .ok (.iload_n 2, 1) := by decide +kernel
theorem dJ9_floorMod_7cf53_15 : decode cJ9_floorMod_7cf53 15 = .ok (.iload_n 1, 1) := by decide +kernel
theorem dJ9_floorMod_7cf53_16 : decode cJ9_floorMod_7cf53 16 = .ok (.iadd, 1) := by decide +kernel
theorem dJ9_floorMod_7cf53_17 : decode cJ9_floorMod_7cf53 17 = .ok (.ireturn, 1) := by decide +kernel
theorem dJ9_floorMod_7cf53_18 : decode cJ9_floorMod_7cf53 18 = .ok (.iload_n 2, 1) := by decide +kernel
theorem dJ9_floorMod_7cf53_19 : decode cJ9_floorMod_7cf53 19 = .ok (.ireturn, 1) := by decide +kernel
theorem dJ9_floorMod_f86c9_0 : decode cJ9_floorMod_f86c9 0 = .ok (.lload_n 0, 1) := by decide +kernel
theorem dJ9_floorMod_f86c9_1 : decode cJ9_floorMod_f86c9 1 = .ok (.lload_n 2, 1) := by decide +kernel
theorem dJ9_floorMod_f86c9_2 : decode cJ9_floorMod_f86c9 2 = .ok (.lrem, 1) := by decide +kernel
theorem dJ9_floorMod_f86c9_3 : decode cJ9_floorMod_f86c9 3 = .ok (.lstore 4, 2) := by decide +kernel
theorem dJ9_floorMod_f86c9_5 : decode cJ9_floorMod_f86c9 5 = .ok (.lload_n 0, 1) := by decide +kernel
theorem dJ9_floorMod_f86c9_6 : decode cJ9_floorMod_f86c9 6 = .ok (.lload_n 2, 1) := by decide +kernel
theorem dJ9_floorMod_f86c9_7 : decode cJ9_floorMod_f86c9 7 = .ok (.lxor, 1) := by decide +kernel
theorem dJ9_floorMod_f86c9_8 : decode cJ9_floorMod_f86c9 8 = .ok (.lconst 0, 1) := by decide +kernel
theorem dJ9_floorMod_f86c9_9 : decode cJ9_floorMod_f86c9 9 = .ok (.lcmp, 1) := by decide +kernel
theorem dJ9_floorMod_f86c9_10 : decode cJ9_floorMod_f86c9 10 = .ok (.ifCond .ge 15, 3) := by decide +kernel
theorem dJ9_floorMod_f86c9_13 : decode cJ9_floorMod_f86c9 13 = .ok (.lload 4, 2) := by decide +kernel
theorem dJ9_floorMod_f86c9_15 : decode cJ9_floorMod_f86c9 15 = .ok (.lconst 0, 1) := by decide +kernel
theorem dJ9_floorMod_f86c9_16 : decode cJ9_floorMod_f86c9 16 = .ok (.lcmp, 1) := by decide +kernel
theorem dJ9_floorMod_f86c9_17 : decode cJ9_floorMod_f86c9 17 = .ok (.ifCond .eq 8, 3) := by decide +kernel
theorem dJ9_floorMod_f86c9_20 : decode cJ9_floorMod_f86c9 20 = .ok (.lload 4, 2) := by decide +kernel
theorem dJ9_floorMod_f86c9_22 : decode cJ9_floorMod_f86c9 22 = .ok (.lload_n 2, 1) := by decide +kernel
theorem dJ9_floorMod_f86c9_23 : decode cJ9_floorMod_f86c9 23 = .ok (.ladd, 1) := by decide +kernel
theorem dJ9_floorMod_f86c9_24 : decode cJ9_floorMod_f86c9 24 = .ok (.lreturn, 1) := by decide +kernel
theorem dJ9_floorMod_f86c9_25 : decode cJ9_floorMod_f86c9 25 = .ok (.lload 4, 2) := by decide +kernel
theorem dJ9_floorMod_f86c9_27 : decode cJ9_floorMod_f86c9 27 = .ok (.lreturn, 1) := by decide +kernel
theorem dJ9_abs_0f7a4_0 : decode cJ9_abs_0f7a4 0 = .ok (.iload_n 0, 1) := by decide +kernel
theorem dJ9_abs_0f7a4_1 : decode cJ9_abs_0f7a4 1 = .ok (.ifCond .ge 8, 3) := by decide +kernel
theorem dJ9_abs_0f7a4_4 : decode cJ9_abs_0f7a4 4 = .ok (.iload_n 0, 1) := by decide +kernel
theorem dJ9_abs_0f7a4_5 : decode cJ9_abs_0f7a4 5 = .ok (.ineg, 1) := by decide +kernel
theorem dJ9_abs_0f7a4_6 : decode cJ9_abs_0f7a4 6 = .ok (.goto 4, 3) := by decide +kernel
theorem dJ9_abs_0f7a4_9 : decode cJ9_abs_0f7a4 9 = .ok (.iload_n 0, 1) := by decide +kernel
theorem dJ9_abs_0f7a4_10 : decode cJ9_abs_0f7a4 10 = .ok (.ireturn, 1) := by decide +kernel
theorem dJ9_max_7cf53_0 : decode cJ9_max_7cf53 0 = .ok (.iload_n 0, 1) := by decide +kernel
theorem dJ9_max_7cf53_1 : decode cJ9_max_7cf53 1 = .ok (.iload_n 1, 1) := by decide +kernel
theorem dJ9_max_7cf53_2 : decode cJ9_max_7cf53 2 = .ok (.if_icmp .lt 7, 3) := by decide +kernel
theorem dJ9_max_7cf53_5 : decode cJ9_max_7cf53 5 = .ok (.iload_n 0, 1) := by decide +kernel
theorem dJ9_max_7cf53_6 : decode cJ9_max_7cf53 6 = .ok (.goto 4, 3) := by decide +kernel
theorem dJ9_max_7cf53_9 : decode cJ9_max_7cf53 9 = .ok (.iload_n 1, 1) := by decide +kernel
theorem dJ9_max_7cf53_10 : decode cJ9_max_7cf53 10 = .ok (.ireturn, 1) := by decide +kernel
theorem dJ9_min_7cf53_0 : decode cJ9_min_7cf53 0 = .ok (.iload_n 0, 1) := by decide +kernel
theorem dJ9_min_7cf53_1 : decode cJ9_min_7cf53 1 = .ok (.iload_n 1, 1) := by decide +kernel
theorem dJ9_min_7cf53_2 : decode cJ9_min_7cf53 2 = .ok (.if_icmp .gt 7, 3) := by decide +kernel
theorem dJ9_min_7cf53_5 : decode cJ9_min_7cf53 5 = .ok (.iload_n 0, 1) := by decide +kernel
theorem dJ9_min_7cf53_6 : decode cJ9_min_7cf53 6 = .ok (.goto 4, 3) := by decide +kernel
theorem dJ9_min_7cf53_9 : decode cJ9_min_7cf53 9 = .ok (.iload_n 1, 1) := by decide +kernel
theorem dJ9_min_7cf53_10 : decode cJ9_min_7cf53 10 = .ok (.ireturn, 1) := by decide +kernel
theorem dJ7_fill_53178_0 : decode cJ7_fill_53178 0 = .ok (.iconst 0, 1) := by decide +kernel
theorem dJ7_fill_53178_1 : decode cJ7_fill_53178 1 = .ok (.istore_n 2, 1) := by decide +kernel
theorem dJ7_fill_53178_2 : decode cJ7_fill_53178 2 = .ok (.aload_n 0, 1) := by decide +kernel
theorem dJ7_fill_53178_3 : decode cJ7_fill_53178 3 = .ok (.arraylength, 1) := by decide +kernel
theorem dJ7_fill_53178_4 : decode cJ7_fill_53178 4 = .ok (.istore_n 3, 1) := by decide +kernel
theorem dJ7_fill_53178_5 : decode cJ7_fill_53178 5 = .ok (.iload_n 2, 1) := by decide +kernel
theorem dJ7_fill_53178_6 : decode cJ7_fill_53178 6 = .ok (.iload_n 3, 1) := by decide +kernel
theorem dJ7_fill_53178_7 : decode cJ7_fill_53178 7 = .ok (.if_icmp .ge 13, 3) := by decide +kernel
theorem dJ7_fill_53178_10 : decode cJ7_fill_53178 10 = .ok (.aload_n 0, 1) := by decide +kernel
theorem dJ7_fill_53178_11 : decode cJ7_fill_53178 11 = .ok (.iload_n 2, 1) := by decide +kernel
theorem dJ7_fill_53178_12 : decode cJ7_fill_53178 12 = .ok (.iload_n 1, 1) := by decide +kernel
theorem dJ7_fill_53178_13 : decode cJ7_fill_53178 13 = .ok (.iastore, 1) := by decide +kernel
theorem dJ7_fill_53178_14 : decode cJ7_fill_53178 14 = .ok (.iinc 2 1, 3) := by decide +kernel
theorem dJ7_fill_53178_17 : decode cJ7_fill_53178 17 = .ok (.goto (-12), 3) := by decide +kernel
theorem dJ7_fill_53178_20 : decode cJ7_fill_53178 20 = .ok (.return_, 1) := by decide +kernel
