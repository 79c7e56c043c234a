theorem dX0_init_0 : decode cX0_init 0 = .ok (.aload_n 0, 1) := by decide +kernel
theorem dX0_init_1 : decode cX0_init 1 = .ok (.invokespecial 3, 3) := by decide +kernel
theorem dX0_init_4 : decode cX0_init 4 = .ok (.aload_n 0, 1) := by decide +kernel
theorem dX0_init_5 : decode cX0_init 5 = .ok (.sipush 138, 3) := by decide +kernel
theorem dX0_init_8 : decode cX0_init 8 = .ok (.newarray .boolean, 2) := by decide +kernel
theorem dX0_init_10 : decode cX0_init 10 = .ok (.putfield 9, 3) := by decide +kernel
theorem dX0_init_13 : decode cX0_init 13 = .ok (.aload_n 0, 1) := by decide +kernel
theorem dX0_init_14 : decode cX0_init 14 = .ok (.aload_n 1, 1) := by decide +kernel
theorem dX0_init_15 : decode cX0_init 15 = .ok (.putfield 15, 3) := by decide +kernel
theorem dX0_init_18 : decode cX0_init 18 = .ok (.aload_n 0, 1) := by decide +kernel
theorem dX0_init_19 : decode cX0_init 19 = .ok (.aload_n 2, 1) := by decide +kernel
theorem dX0_init_20 : decode cX0_init 20 = .ok (.putfield 19, 3) := by decide +kernel
theorem dX0_init_23 : decode cX0_init 23 = .ok (.return_, 1) := by decide +kernel
theorem dX0_passes_0 : decode cX0_passes 0 = .ok (.iconst 0, 1) := by decide +kernel
theorem dX0_passes_1 : decode cX0_passes 1 = .ok (.istore_n 1, 1) := by decide +kernel
theorem dX0_passes_2 : decode cX0_passes 2 = .ok (.iload_n 1, 1) := by decide +kernel
theorem dX0_passes_3 : decode cX0_passes 3 = .ok (.aload_n 0, 1) := by decide +kernel
theorem dX0_passes_4 : decode cX0_passes 4 = .ok (.getfield 15, 3) := by decide +kernel
theorem dX0_passes_7 : decode cX0_passes 7 = .ok (.getfield 23, 3) := by decide +kernel
theorem dX0_passes_10 : decode cX0_passes 10 = .ok (.getfield 29, 3) := by decide +kernel
theorem dX0_passes_13 : decode cX0_passes 13 = .ok (.if_icmp .ge 41, 3) := by decide +kernel
theorem dX0_passes_16 : decode cX0_passes 16 = .ok (.aload_n 0, 1) := by decide +kernel
theorem dX0_passes_17 : decode cX0_passes 17 = .ok (.getfield 15, 3) := by decide +kernel
theorem dX0_passes_20 : decode cX0_passes 20 = .ok (.getfield 23, 3) := by decide +kernel
theorem dX0_passes_23 : decode cX0_passes 23 = .ok (.iload_n 1, 1) := by decide +kernel
theorem dX0_passes_24 : decode cX0_passes 24 = .ok (.invokevirtual 35, 3) := by decide +kernel
theorem dX0_passes_27 : decode cX0_passes 27 = .ok (.ifCond .eq 21, 3) := by decide +kernel
theorem dX0_passes_30 : decode cX0_passes 30 = .ok (.aload_n 0, 1) := by decide +kernel
theorem dX0_passes_31 : decode cX0_passes 31 = .ok (.iload_n 1, 1) := by decide +kernel
theorem dX0_passes_32 : decode cX0_passes 32 = .ok (.invokevirtual 39, 3) := by decide +kernel
theorem dX0_passes_35 : decode cX0_passes 35 = .ok (.ifCond .eq 11, 3) := by decide +kernel
theorem dX0_passes_38 : decode cX0_passes 38 = .ok (.aload_n 0, 1) := by decide +kernel
theorem dX0_passes_39 : decode cX0_passes 39 = .ok (.iload_n 1, 1) := by decide +kernel
theorem dX0_passes_40 : decode cX0_passes 40 = .ok (.invokevirtual 42, 3) := by decide +kernel
theorem dX0_passes_43 : decode cX0_passes 43 = .ok (.ifCond .ne 5, 3) := by decide +kernel
theorem dX0_passes_46 : decode cX0_passes 46 = .ok (.iconst 0, 1) := by decide +kernel
theorem dX0_passes_47 : decode cX0_passes 47 = .ok (.ireturn, 1) := by decide +kernel
theorem dX0_passes_48 : decode cX0_passes 48 = .ok (.iinc 1 1, 3) := by decide +kernel
theorem dX0_passes_51 : decode cX0_passes 51 = .ok (.goto (-49), 3) := by decide +kernel
theorem dX0_passes_54 : decode cX0_passes 54 = .ok (.aload_n 0, 1) := by decide +kernel
theorem dX0_passes_55 : decode cX0_passes 55 = .ok (.invokevirtual 45, 3) := by decide +kernel
theorem dX0_passes_58 : decode cX0_passes 58 = .ok (.ifCond .eq 30, 3) := by decide +kernel
theorem dX0_passes_61 : decode cX0_passes 61 = .ok (.aload_n 0, 1) := by decide +kernel
theorem dX0_passes_62 : decode cX0_passes 62 = .ok (.getfield 15, 3) := by decide +kernel
theorem dX0_passes_65 : decode cX0_passes 65 = .ok (.getfield 23, 3) := by decide +kernel
theorem dX0_passes_68 : decode cX0_passes 68 = .ok (.invokevirtual 49, 3) := by decide +kernel
theorem dX0_passes_71 : decode cX0_passes 71 = .ok (.aload_n 0, 1) := by decide +kernel
theorem dX0_passes_72 : decode cX0_passes 72 = .ok (.getfield 15, 3) := by decide +kernel
theorem dX0_passes_75 : decode cX0_passes 75 = .ok (.getfield 53, 3) := by decide +kernel
theorem dX0_passes_78 : decode cX0_passes 78 = .ok (.getfield 57, 3) := by decide +kernel
theorem dX0_passes_81 : decode cX0_passes 81 = .ok (.if_icmp .ne 7, 3) := by decide +kernel
theorem dX0_passes_84 : decode cX0_passes 84 = .ok (.iconst 1, 1) := by decide +kernel
theorem dX0_passes_85 : decode cX0_passes 85 = .ok (.goto 4, 3) := by decide +kernel
theorem dX0_passes_88 : decode cX0_passes 88 = .ok (.iconst 0, 1) := by decide +kernel
theorem dX0_passes_89 : decode cX0_passes 89 = .ok (.ireturn, 1) := by decide +kernel
theorem dX0_treePasses_0 : decode cX0_treePasses 0 = .ok (.aload_n 0, 1) := by decide +kernel
theorem dX0_treePasses_1 : decode cX0_treePasses 1 = .ok (.getfield 15, 3) := by decide +kernel
theorem dX0_treePasses_4 : decode cX0_treePasses 4 = .ok (.getfield 23, 3) := by decide +kernel
theorem dX0_treePasses_7 : decode cX0_treePasses 7 = .ok (.iload_n 1, 1) := by decide +kernel
theorem dX0_treePasses_8 : decode cX0_treePasses 8 = .ok (.invokevirtual 62, 3) := by decide +kernel
theorem dX0_treePasses_11 : decode cX0_treePasses 11 = .ok (.istore_n 2, 1) := by decide +kernel
theorem dX0_treePasses_12 : decode cX0_treePasses 12 = .ok (.aload_n 0, 1) := by decide +kernel
theorem dX0_treePasses_13 : decode cX0_treePasses 13 = .ok (.getfield 15, 3) := by decide +kernel
theorem dX0_treePasses_16 : decode cX0_treePasses 16 = .ok (.iload_n 1, 1) := by decide +kernel
theorem dX0_treePasses_17 : decode cX0_treePasses 17 = .ok (.invokevirtual 66, 3) := by decide +kernel
theorem dX0_treePasses_20 : decode cX0_treePasses 20 = .ok (.istore_n 3, 1) := by decide +kernel
theorem dX0_treePasses_21 : decode cX0_treePasses 21 = .ok (.iload_n 3, 1) := by decide +kernel
theorem dX0_treePasses_22 : decode cX0_treePasses 22 = .ok (.ifCond .ne 14, 3) := by decide +kernel
theorem dX0_treePasses_25 : decode cX0_treePasses 25 = .ok (.iload_n 2, 1) := by decide +kernel
theorem dX0_treePasses_26 : decode cX0_treePasses 26 = .ok (.iconst (-1), 1) := by decide +kernel
theorem dX0_treePasses_27 : decode cX0_treePasses 27 = .ok (.if_icmp .ne 7, 3) := by decide +kernel
theorem dX0_treePasses_30 : decode cX0_treePasses 30 = .ok (.iconst 1, 1) := by decide +kernel
theorem dX0_treePasses_31 : decode cX0_treePasses 31 = .ok (.goto 4, 3) := by decide +kernel
theorem dX0_treePasses_34 : decode cX0_treePasses 34 = .ok (.iconst 0, 1) := by decide +kernel
theorem dX0_treePasses_35 : decode cX0_treePasses 35 = .ok (.ireturn, 1) := by decide +kernel
theorem dX0_treePasses_36 : decode cX0_treePasses 36 = .ok (.aload_n 0, 1) := by decide +kernel
theorem dX0_treePasses_37 : decode cX0_treePasses 37 = .ok (.iload_n 2, 1) := by decide +kernel
theorem dX0_treePasses_38 : decode cX0_treePasses 38 = .ok (.iload_n 3, 1) := by decide +kernel
theorem dX0_treePasses_39 : decode cX0_treePasses 39 = .ok (.iconst 1, 1) := by decide +kernel
theorem dX0_treePasses_40 : decode cX0_treePasses 40 = .ok (.invokevirtual 69, 3) := by decide +kernel
theorem dX0_treePasses_43 : decode cX0_treePasses 43 = .ok (.ifCond .eq 27, 3) := by decide +kernel
theorem dX0_treePasses_46 : decode cX0_treePasses 46 = .ok (.aload_n 0, 1) := by decide +kernel
theorem dX0_treePasses_47 : decode cX0_treePasses 47 = .ok (.iload_n 2, 1) := by decide +kernel
theorem dX0_treePasses_48 : decode cX0_treePasses 48 = .ok (.iload_n 3, 1) := by decide +kernel
theorem dX0_treePasses_49 : decode cX0_treePasses 49 = .ok (.invokevirtual 73, 3) := by decide +kernel
theorem dX0_treePasses_52 : decode cX0_treePasses 52 = .ok (.aload_n 0, 1) := by decide +kernel
theorem dX0_treePasses_53 : decode cX0_treePasses 53 = .ok (.getfield 15, 3) := by decide +kernel
theorem dX0_treePasses_56 : decode cX0_treePasses 56 = .ok (.getfield 23, 3) := by decide +kernel
theorem dX0_treePasses_59 : decode cX0_treePasses 59 = .ok (.iload_n 1, 1) := by decide +kernel
theorem dX0_treePasses_60 : decode cX0_treePasses 60 = .ok (.invokevirtual 77, 3) := by decide +kernel
theorem dX0_treePasses_63 : decode cX0_treePasses 63 = .ok (.if_icmp .ne 7, 3) := by decide +kernel
theorem dX0_treePasses_66 : decode cX0_treePasses 66 = .ok (.iconst 1, 1) := by decide +kernel
theorem dX0_treePasses_67 : decode cX0_treePasses 67 = .ok (.goto 4, 3) := by decide +kernel
theorem dX0_treePasses_70 : decode cX0_treePasses 70 = .ok (.iconst 0, 1) := by decide +kernel
theorem dX0_treePasses_71 : decode cX0_treePasses 71 = .ok (.ireturn, 1) := by decide +kernel
theorem dX0_nodePasses_0 : decode cX0_nodePasses 0 = .ok (.aload_n 0, 1) := by decide +kernel
theorem dX0_nodePasses_1 : decode cX0_nodePasses 1 = .ok (.getfield 15, 3) := by decide +kernel
theorem dX0_nodePasses_4 : decode cX0_nodePasses 4 = .ok (.getfield 53, 3) := by decide +kernel
theorem dX0_nodePasses_7 : decode cX0_nodePasses 7 = .ok (.iload_n 1, 1) := by decide +kernel
theorem dX0_nodePasses_8 : decode cX0_nodePasses 8 = .ok (.invokevirtual 80, 3) := by decide +kernel
theorem dX0_nodePasses_11 : decode cX0_nodePasses 11 = .ok (.istore 4, 2) := by decide +kernel
theorem dX0_nodePasses_13 : decode cX0_nodePasses 13 = .ok (.aload_n 0, 1) := by decide +kernel
theorem dX0_nodePasses_14 : decode cX0_nodePasses 14 = .ok (.getfield 15, 3) := by decide +kernel
theorem dX0_nodePasses_17 : decode cX0_nodePasses 17 = .ok (.getfield 53, 3) := by decide +kernel
theorem dX0_nodePasses_20 : decode cX0_nodePasses 20 = .ok (.iload_n 1, 1) := by decide +kernel
theorem dX0_nodePasses_21 : decode cX0_nodePasses 21 = .ok (.invokevirtual 83, 3) := by decide +kernel
theorem dX0_nodePasses_24 : decode cX0_nodePasses 24 = .ok (.ifCond .eq 18, 3) := by decide +kernel
theorem dX0_nodePasses_27 : decode cX0_nodePasses 27 = .ok (.aload_n 0, 1) := by decide +kernel
theorem dX0_nodePasses_28 : decode cX0_nodePasses 28 = .ok (.getfield 15, 3) := by decide +kernel
theorem dX0_nodePasses_31 : decode cX0_nodePasses 31 = .ok (.getfield 53, 3) := by decide +kernel
theorem dX0_nodePasses_34 : decode cX0_nodePasses 34 = .ok (.iload_n 1, 1) := by decide +kernel
theorem dX0_nodePasses_35 : decode cX0_nodePasses 35 = .ok (.invokevirtual 86, 3) := by decide +kernel
theorem dX0_nodePasses_38 : decode cX0_nodePasses 38 = .ok (.iload_n 2, 1) := by decide +kernel
theorem dX0_nodePasses_39 : decode cX0_nodePasses 39 = .ok (.if_icmp .eq 5, 3) := by decide +kernel
theorem dX0_nodePasses_42 : decode cX0_nodePasses 42 = .ok (.iconst 0, 1) := by decide +kernel
theorem dX0_nodePasses_43 : decode cX0_nodePasses 43 = .ok (.ireturn, 1) := by decide +kernel
theorem dX0_nodePasses_44 : decode cX0_nodePasses 44 = .ok (.iload 4, 2) := by decide +kernel
theorem dX0_nodePasses_46 : decode cX0_nodePasses 46 = .ok (.iconst 1, 1) := by decide +kernel
theorem dX0_nodePasses_47 : decode cX0_nodePasses 47 = .ok (.if_icmp .lt 13, 3) := by decide +kernel
theorem dX0_nodePasses_50 : decode cX0_nodePasses 50 = .ok (.iload 4, 2) := by decide +kernel
theorem dX0_nodePasses_52 : decode cX0_nodePasses 52 = .ok (.iconst 4, 1) := by decide +kernel
theorem dX0_nodePasses_53 : decode cX0_nodePasses 53 = .ok (.if_icmp .ge 9, 3) := by decide +kernel
theorem dX0_nodePasses_56 : decode cX0_nodePasses 56 = .ok (.iload_n 3, 1) := by decide +kernel
theorem dX0_nodePasses_57 : decode cX0_nodePasses 57 = .ok (.ifCond .ne 5, 3) := by decide +kernel
theorem dX0_nodePasses_60 : decode cX0_nodePasses 60 = .ok (.iconst 0, 1) := by decide +kernel
theorem dX0_nodePasses_61 : decode cX0_nodePasses 61 = .ok (.ireturn, 1) := by decide +kernel
theorem dX0_nodePasses_62 : decode cX0_nodePasses 62 = .ok (.iconst 0, 1) := by decide +kernel
theorem dX0_nodePasses_63 : decode cX0_nodePasses 63 = .ok (.istore 5, 2) := by decide +kernel
theorem dX0_nodePasses_65 : decode cX0_nodePasses 65 = .ok (.iload_n 2, 1) := by decide +kernel
theorem dX0_nodePasses_66 : decode cX0_nodePasses 66 = .ok (.iconst 1, 1) := by decide +kernel
theorem dX0_nodePasses_67 : decode cX0_nodePasses 67 = .ok (.if_icmp .le 59, 3) := by decide +kernel
theorem dX0_nodePasses_70 : decode cX0_nodePasses 70 = .ok (.iload 5, 2) := by decide +kernel
theorem dX0_nodePasses_72 : decode cX0_nodePasses 72 = .ok (.iload 4, 2) := by decide +kernel
theorem dX0_nodePasses_74 : decode cX0_nodePasses 74 = .ok (.if_icmp .ge 52, 3) := by decide +kernel
theorem dX0_nodePasses_77 : decode cX0_nodePasses 77 = .ok (.aload_n 0, 1) := by decide +kernel
theorem dX0_nodePasses_78 : decode cX0_nodePasses 78 = .ok (.aload_n 0, 1) := by decide +kernel
theorem dX0_nodePasses_79 : decode cX0_nodePasses 79 = .ok (.getfield 15, 3) := by decide +kernel
theorem dX0_nodePasses_82 : decode cX0_nodePasses 82 = .ok (.getfield 53, 3) := by decide +kernel
theorem dX0_nodePasses_85 : decode cX0_nodePasses 85 = .ok (.iload_n 1, 1) := by decide +kernel
theorem dX0_nodePasses_86 : decode cX0_nodePasses 86 = .ok (.iload 5, 2) := by decide +kernel
theorem dX0_nodePasses_88 : decode cX0_nodePasses 88 = .ok (.invokevirtual 89, 3) := by decide +kernel
theorem dX0_nodePasses_91 : decode cX0_nodePasses 91 = .ok (.iload_n 2, 1) := by decide +kernel
theorem dX0_nodePasses_92 : decode cX0_nodePasses 92 = .ok (.iconst 1, 1) := by decide +kernel
theorem dX0_nodePasses_93 : decode cX0_nodePasses 93 = .ok (.isub, 1) := by decide +kernel
theorem dX0_nodePasses_94 : decode cX0_nodePasses 94 = .ok (.iload_n 3, 1) := by decide +kernel
theorem dX0_nodePasses_95 : decode cX0_nodePasses 95 = .ok (.ifCond .eq 16, 3) := by decide +kernel
theorem dX0_nodePasses_98 : decode cX0_nodePasses 98 = .ok (.iload 5, 2) := by decide +kernel
theorem dX0_nodePasses_100 : decode cX0_nodePasses 100 = .ok (.iload 4, 2) := by decide +kernel
theorem dX0_nodePasses_102 : decode cX0_nodePasses 102 = .ok (.iconst 1, 1) := by decide +kernel
theorem dX0_nodePasses_103 : decode cX0_nodePasses 103 = .ok (.isub, 1) := by decide +kernel
theorem dX0_nodePasses_104 : decode cX0_nodePasses 104 = .ok (.if_icmp .ne 7, 3) := by decide +kernel
theorem dX0_nodePasses_107 : decode cX0_nodePasses 107 = .ok (.iconst 1, 1) := by decide +kernel
theorem dX0_nodePasses_108 : decode cX0_nodePasses 108 = .ok (.goto 4, 3) := by decide +kernel
theorem dX0_nodePasses_111 : decode cX0_nodePasses 111 = .ok (.iconst 0, 1) := by decide +kernel
theorem dX0_nodePasses_112 : decode cX0_nodePasses 112 = .ok (.invokevirtual 69, 3) := by decide +kernel
theorem dX0_nodePasses_115 : decode cX0_nodePasses 115 = .ok (.ifCond .ne 5, 3) := by decide +kernel
theorem dX0_nodePasses_118 : decode cX0_nodePasses 118 = .ok (.iconst 0, 1) := by decide +kernel
theorem dX0_nodePasses_119 : decode cX0_nodePasses 119 = .ok (.ireturn, 1) := by decide +kernel
theorem dX0_nodePasses_120 : decode cX0_nodePasses 120 = .ok (.iinc 5 1, 3) := by decide +kernel
theorem dX0_nodePasses_123 : decode cX0_nodePasses 123 = .ok (.goto (-58), 3) := by decide +kernel
theorem dX0_nodePasses_126 : decode cX0_nodePasses 126 = .ok (.iconst 1, 1) := by decide +kernel
theorem dX0_nodePasses_127 : decode cX0_nodePasses 127 = .ok (.ireturn, 1) := by decide +kernel
theorem dX0_countLeafElements_0 : decode cX0_countLeafElements 0 = .ok (.aload_n 0, 1) := by decide +kernel
theorem dX0_countLeafElements_1 : decode cX0_countLeafElements 1 = .ok (.getfield 15, 3) := by decide +kernel
theorem dX0_countLeafElements_4 : decode cX0_countLeafElements 4 = .ok (.getfield 53, 3) := by decide +kernel
theorem dX0_countLeafElements_7 : decode cX0_countLeafElements 7 = .ok (.iload_n 1, 1) := by decide +kernel
theorem dX0_countLeafElements_8 : decode cX0_countLeafElements 8 = .ok (.invokevirtual 80, 3) := by decide +kernel
theorem dX0_countLeafElements_11 : decode cX0_countLeafElements 11 = .ok (.istore_n 3, 1) := by decide +kernel
theorem dX0_countLeafElements_12 : decode cX0_countLeafElements 12 = .ok (.iload_n 2, 1) := by decide +kernel
theorem dX0_countLeafElements_13 : decode cX0_countLeafElements 13 = .ok (.iconst 1, 1) := by decide +kernel
theorem dX0_countLeafElements_14 : decode cX0_countLeafElements 14 = .ok (.if_icmp .gt 5, 3) := by decide +kernel
theorem dX0_countLeafElements_17 : decode cX0_countLeafElements 17 = .ok (.iload_n 3, 1) := by decide +kernel
theorem dX0_countLeafElements_18 : decode cX0_countLeafElements 18 = .ok (.ireturn, 1) := by decide +kernel
theorem dX0_countLeafElements_19 : decode cX0_countLeafElements 19 = .ok (.iconst 0, 1) := by decide +kernel
theorem dX0_countLeafElements_20 : decode cX0_countLeafElements 20 = .ok (.istore 4, 2) := by decide +kernel
theorem dX0_countLeafElements_22 : decode cX0_countLeafElements 22 = .ok (.iconst 0, 1) := by decide +kernel
theorem dX0_countLeafElements_23 : decode cX0_countLeafElements 23 = .ok (.istore 5, 2) := by decide +kernel
theorem dX0_countLeafElements_25 : decode cX0_countLeafElements 25 = .ok (.iload 5, 2) := by decide +kernel
theorem dX0_countLeafElements_27 : decode cX0_countLeafElements 27 = .ok (.iload_n 3, 1) := by decide +kernel
theorem dX0_countLeafElements_28 : decode cX0_countLeafElements 28 = .ok (.if_icmp .ge 34, 3) := by decide +kernel
theorem dX0_countLeafElements_31 : decode cX0_countLeafElements 31 = .ok (.iload 4, 2) := by decide +kernel
theorem dX0_countLeafElements_33 : decode cX0_countLeafElements 33 = .ok (.aload_n 0, 1) := by decide +kernel
theorem dX0_countLeafElements_34 : decode cX0_countLeafElements 34 = .ok (.aload_n 0, 1) := by decide +kernel
theorem dX0_countLeafElements_35 : decode cX0_countLeafElements 35 = .ok (.getfield 15, 3) := by decide +kernel
theorem dX0_countLeafElements_38 : decode cX0_countLeafElements 38 = .ok (.getfield 53, 3) := by decide +kernel
theorem dX0_countLeafElements_41 : decode cX0_countLeafElements 41 = .ok (.iload_n 1, 1) := by decide +kernel
theorem dX0_countLeafElements_42 : decode cX0_countLeafElements 42 = .ok (.iload 5, 2) := by decide +kernel
theorem dX0_countLeafElements_44 : decode cX0_countLeafElements 44 = .ok (.invokevirtual 89, 3) := by decide +kernel
theorem dX0_countLeafElements_47 : decode cX0_countLeafElements 47 = .ok (.iload_n 2, 1) := by decide +kernel
theorem dX0_countLeafElements_48 : decode cX0_countLeafElements 48 = .ok (.iconst 1, 1) := by decide +kernel
theorem dX0_countLeafElements_49 : decode cX0_countLeafElements 49 = .ok (.isub, 1) := by decide +kernel
theorem dX0_countLeafElements_50 : decode cX0_countLeafElements 50 = .ok (.invokevirtual 73, 3) := by decide +kernel
theorem dX0_countLeafElements_53 : decode cX0_countLeafElements 53 = .ok (.iadd, 1) := by decide +kernel
theorem dX0_countLeafElements_54 : decode cX0_countLeafElements 54 = .ok (.istore 4, 2) := by decide +kernel
theorem dX0_countLeafElements_56 : decode cX0_countLeafElements 56 = .ok (.iinc 5 1, 3) := by decide +kernel
theorem dX0_countLeafElements_59 : decode cX0_countLeafElements 59 = .ok (.goto (-34), 3) := by decide +kernel
theorem dX0_countLeafElements_62 : decode cX0_countLeafElements 62 = .ok (.iload 4, 2) := by decide +kernel
theorem dX0_countLeafElements_64 : decode cX0_countLeafElements 64 = .ok (.ireturn, 1) := by decide +kernel
theorem dX0_elementsPass_0 : decode cX0_elementsPass 0 = .ok (.iconst 0, 1) := by decide +kernel
theorem dX0_elementsPass_1 : decode cX0_elementsPass 1 = .ok (.istore_n 2, 1) := by decide +kernel
theorem dX0_elementsPass_2 : decode cX0_elementsPass 2 = .ok (.iload_n 2, 1) := by decide +kernel
theorem dX0_elementsPass_3 : decode cX0_elementsPass 3 = .ok (.aload_n 0, 1) := by decide +kernel
theorem dX0_elementsPass_4 : decode cX0_elementsPass 4 = .ok (.getfield 15, 3) := by decide +kernel
theorem dX0_elementsPass_7 : decode cX0_elementsPass 7 = .ok (.getfield 23, 3) := by decide +kernel
theorem dX0_elementsPass_10 : decode cX0_elementsPass 10 = .ok (.iload_n 1, 1) := by decide +kernel
theorem dX0_elementsPass_11 : decode cX0_elementsPass 11 = .ok (.invokevirtual 77, 3) := by decide +kernel
theorem dX0_elementsPass_14 : decode cX0_elementsPass 14 = .ok (.if_icmp .ge 35, 3) := by decide +kernel
theorem dX0_elementsPass_17 : decode cX0_elementsPass 17 = .ok (.aload_n 0, 1) := by decide +kernel
theorem dX0_elementsPass_18 : decode cX0_elementsPass 18 = .ok (.getfield 15, 3) := by decide +kernel
theorem dX0_elementsPass_21 : decode cX0_elementsPass 21 = .ok (.iload_n 1, 1) := by decide +kernel
theorem dX0_elementsPass_22 : decode cX0_elementsPass 22 = .ok (.iload_n 2, 1) := by decide +kernel
theorem dX0_elementsPass_23 : decode cX0_elementsPass 23 = .ok (.invokevirtual 92, 3) := by decide +kernel
theorem dX0_elementsPass_26 : decode cX0_elementsPass 26 = .ok (.aload_n 0, 1) := by decide +kernel
theorem dX0_elementsPass_27 : decode cX0_elementsPass 27 = .ok (.getfield 15, 3) := by decide +kernel
theorem dX0_elementsPass_30 : decode cX0_elementsPass 30 = .ok (.getfield 23, 3) := by decide +kernel
theorem dX0_elementsPass_33 : decode cX0_elementsPass 33 = .ok (.iload_n 1, 1) := by decide +kernel
theorem dX0_elementsPass_34 : decode cX0_elementsPass 34 = .ok (.iload_n 2, 1) := by decide +kernel
theorem dX0_elementsPass_35 : decode cX0_elementsPass 35 = .ok (.invokevirtual 95, 3) := by decide +kernel
theorem dX0_elementsPass_38 : decode cX0_elementsPass 38 = .ok (.if_icmp .eq 5, 3) := by decide +kernel
theorem dX0_elementsPass_41 : decode cX0_elementsPass 41 = .ok (.iconst 0, 1) := by decide +kernel
theorem dX0_elementsPass_42 : decode cX0_elementsPass 42 = .ok (.ireturn, 1) := by decide +kernel
theorem dX0_elementsPass_43 : decode cX0_elementsPass 43 = .ok (.iinc 2 1, 3) := by decide +kernel
theorem dX0_elementsPass_46 : decode cX0_elementsPass 46 = .ok (.goto (-44), 3) := by decide +kernel
theorem dX0_elementsPass_49 : decode cX0_elementsPass 49 = .ok (.iconst 1, 1) := by decide +kernel
theorem dX0_elementsPass_50 : decode cX0_elementsPass 50 = .ok (.ireturn, 1) := by decide +kernel
theorem dX0_referencesPass_0 : decode cX0_referencesPass 0 = .ok (.aload_n 0, 1) := by decide +kernel
theorem dX0_referencesPass_1 : decode cX0_referencesPass 1 = .ok (.getfield 19, 3) := by decide +kernel
theorem dX0_referencesPass_4 : decode cX0_referencesPass 4 = .ok (.iconst (-1), 1) := by decide +kernel
theorem dX0_referencesPass_5 : decode cX0_referencesPass 5 = .ok (.invokevirtual 98, 3) := by decide +kernel
theorem dX0_referencesPass_8 : decode cX0_referencesPass 8 = .ok (.aload_n 0, 1) := by decide +kernel
theorem dX0_referencesPass_9 : decode cX0_referencesPass 9 = .ok (.invokevirtual 104, 3) := by decide +kernel
theorem dX0_referencesPass_12 : decode cX0_referencesPass 12 = .ok (.iconst 0, 1) := by decide +kernel
theorem dX0_referencesPass_13 : decode cX0_referencesPass 13 = .ok (.istore_n 1, 1) := by decide +kernel
theorem dX0_referencesPass_14 : decode cX0_referencesPass 14 = .ok (.iload_n 1, 1) := by decide +kernel
theorem dX0_referencesPass_15 : decode cX0_referencesPass 15 = .ok (.aload_n 0, 1) := by decide +kernel
theorem dX0_referencesPass_16 : decode cX0_referencesPass 16 = .ok (.getfield 15, 3) := by decide +kernel
theorem dX0_referencesPass_19 : decode cX0_referencesPass 19 = .ok (.getfield 53, 3) := by decide +kernel
theorem dX0_referencesPass_22 : decode cX0_referencesPass 22 = .ok (.getfield 57, 3) := by decide +kernel
theorem dX0_referencesPass_25 : decode cX0_referencesPass 25 = .ok (.if_icmp .ge 30, 3) := by decide +kernel
theorem dX0_referencesPass_28 : decode cX0_referencesPass 28 = .ok (.aload_n 0, 1) := by decide +kernel
theorem dX0_referencesPass_29 : decode cX0_referencesPass 29 = .ok (.getfield 9, 3) := by decide +kernel
theorem dX0_referencesPass_32 : decode cX0_referencesPass 32 = .ok (.iload_n 1, 1) := by decide +kernel
theorem dX0_referencesPass_33 : decode cX0_referencesPass 33 = .ok (.invokestatic 107, 3) := by decide +kernel
theorem dX0_referencesPass_36 : decode cX0_referencesPass 36 = .ok (.aload_n 0, 1) := by decide +kernel
theorem dX0_referencesPass_37 : decode cX0_referencesPass 37 = .ok (.getfield 19, 3) := by decide +kernel
theorem dX0_referencesPass_40 : decode cX0_referencesPass 40 = .ok (.iload_n 1, 1) := by decide +kernel
theorem dX0_referencesPass_41 : decode cX0_referencesPass 41 = .ok (.invokevirtual 111, 3) := by decide +kernel
theorem dX0_referencesPass_44 : decode cX0_referencesPass 44 = .ok (.if_icmp .eq 5, 3) := by decide +kernel
theorem dX0_referencesPass_47 : decode cX0_referencesPass 47 = .ok (.iconst 0, 1) := by decide +kernel
theorem dX0_referencesPass_48 : decode cX0_referencesPass 48 = .ok (.ireturn, 1) := by decide +kernel
theorem dX0_referencesPass_49 : decode cX0_referencesPass 49 = .ok (.iinc 1 1, 3) := by decide +kernel
theorem dX0_referencesPass_52 : decode cX0_referencesPass 52 = .ok (.goto (-38), 3) := by decide +kernel
theorem dX0_referencesPass_55 : decode cX0_referencesPass 55 = .ok (.iconst 1, 1) := by decide +kernel
theorem dX0_referencesPass_56 : decode cX0_referencesPass 56 = .ok (.ireturn, 1) := by decide +kernel
theorem dX0_followReferences_0 : decode cX0_followReferences 0 = .ok (.aload_n 0, 1) := by decide +kernel
theorem dX0_followReferences_1 : decode cX0_followReferences 1 = .ok (.getfield 15, 3) := by decide +kernel
theorem dX0_followReferences_4 : decode cX0_followReferences 4 = .ok (.getfield 53, 3) := by decide +kernel
theorem dX0_followReferences_7 : decode cX0_followReferences 7 = .ok (.getfield 57, 3) := by decide +kernel
theorem dX0_followReferences_10 : decode cX0_followReferences 10 = .ok (.iconst 1, 1) := by decide +kernel
theorem dX0_followReferences_11 : decode cX0_followReferences 11 = .ok (.isub, 1) := by decide +kernel
theorem dX0_followReferences_12 : decode cX0_followReferences 12 = .ok (.istore_n 1, 1) := by decide +kernel
theorem dX0_followReferences_13 : decode cX0_followReferences 13 = .ok (.iload_n 1, 1) := by decide +kernel
theorem dX0_followReferences_14 : decode cX0_followReferences 14 = .ok (.ifCond .lt 36, 3) := by decide +kernel
theorem dX0_followReferences_17 : decode cX0_followReferences 17 = .ok (.aload_n 0, 1) := by decide +kernel
theorem dX0_followReferences_18 : decode cX0_followReferences 18 = .ok (.getfield 9, 3) := by decide +kernel
theorem dX0_followReferences_21 : decode cX0_followReferences 21 = .ok (.iload_n 1, 1) := by decide +kernel
theorem dX0_followReferences_22 : decode cX0_followReferences 22 = .ok (.aload_n 0, 1) := by decide +kernel
theorem dX0_followReferences_23 : decode cX0_followReferences 23 = .ok (.getfield 15, 3) := by decide +kernel
theorem dX0_followReferences_26 : decode cX0_followReferences 26 = .ok (.getfield 23, 3) := by decide +kernel
theorem dX0_followReferences_29 : decode cX0_followReferences 29 = .ok (.iload_n 1, 1) := by decide +kernel
theorem dX0_followReferences_30 : decode cX0_followReferences 30 = .ok (.invokevirtual 114, 3) := by decide +kernel
theorem dX0_followReferences_33 : decode cX0_followReferences 33 = .ok (.ifCond .le 7, 3) := by decide +kernel
theorem dX0_followReferences_36 : decode cX0_followReferences 36 = .ok (.iconst 1, 1) := by decide +kernel
theorem dX0_followReferences_37 : decode cX0_followReferences 37 = .ok (.goto 4, 3) := by decide +kernel
theorem dX0_followReferences_40 : decode cX0_followReferences 40 = .ok (.iconst 0, 1) := by decide +kernel
theorem dX0_followReferences_41 : decode cX0_followReferences 41 = .ok (.invokestatic 117, 3) := by decide +kernel
theorem dX0_followReferences_44 : decode cX0_followReferences 44 = .ok (.iinc 1 (-1), 3) := by decide +kernel
theorem dX0_followReferences_47 : decode cX0_followReferences 47 = .ok (.goto (-34), 3) := by decide +kernel
theorem dX0_followReferences_50 : decode cX0_followReferences 50 = .ok (.aload_n 0, 1) := by decide +kernel
theorem dX0_followReferences_51 : decode cX0_followReferences 51 = .ok (.getfield 15, 3) := by decide +kernel
theorem dX0_followReferences_54 : decode cX0_followReferences 54 = .ok (.getfield 53, 3) := by decide +kernel
theorem dX0_followReferences_57 : decode cX0_followReferences 57 = .ok (.getfield 57, 3) := by decide +kernel
theorem dX0_followReferences_60 : decode cX0_followReferences 60 = .ok (.iconst 1, 1) := by decide +kernel
theorem dX0_followReferences_61 : decode cX0_followReferences 61 = .ok (.isub, 1) := by decide +kernel
theorem dX0_followReferences_62 : decode cX0_followReferences 62 = .ok (.istore_n 1, 1) := by decide +kernel
theorem dX0_followReferences_63 : decode cX0_followReferences 63 = .ok (.iload_n 1, 1) := by decide +kernel
theorem dX0_followReferences_64 : decode cX0_followReferences 64 = .ok (.ifCond .lt 39, 3) := by decide +kernel
theorem dX0_followReferences_67 : decode cX0_followReferences 67 = .ok (.aload_n 0, 1) := by decide +kernel
theorem dX0_followReferences_68 : decode cX0_followReferences 68 = .ok (.getfield 15, 3) := by decide +kernel
theorem dX0_followReferences_71 : decode cX0_followReferences 71 = .ok (.getfield 53, 3) := by decide +kernel
theorem dX0_followReferences_74 : decode cX0_followReferences 74 = .ok (.iload_n 1, 1) := by decide +kernel
theorem dX0_followReferences_75 : decode cX0_followReferences 75 = .ok (.invokevirtual 83, 3) := by decide +kernel
theorem dX0_followReferences_78 : decode cX0_followReferences 78 = .ok (.ifCond .eq 19, 3) := by decide +kernel
theorem dX0_followReferences_81 : decode cX0_followReferences 81 = .ok (.aload_n 0, 1) := by decide +kernel
theorem dX0_followReferences_82 : decode cX0_followReferences 82 = .ok (.getfield 9, 3) := by decide +kernel
theorem dX0_followReferences_85 : decode cX0_followReferences 85 = .ok (.iload_n 1, 1) := by decide +kernel
theorem dX0_followReferences_86 : decode cX0_followReferences 86 = .ok (.invokestatic 107, 3) := by decide +kernel
theorem dX0_followReferences_89 : decode cX0_followReferences 89 = .ok (.ifCond .eq 8, 3) := by decide +kernel
theorem dX0_followReferences_92 : decode cX0_followReferences 92 = .ok (.aload_n 0, 1) := by decide +kernel
theorem dX0_followReferences_93 : decode cX0_followReferences 93 = .ok (.iload_n 1, 1) := by decide +kernel
theorem dX0_followReferences_94 : decode cX0_followReferences 94 = .ok (.invokevirtual 121, 3) := by decide +kernel
theorem dX0_followReferences_97 : decode cX0_followReferences 97 = .ok (.iinc 1 (-1), 3) := by decide +kernel
theorem dX0_followReferences_100 : decode cX0_followReferences 100 = .ok (.goto (-37), 3) := by decide +kernel
theorem dX0_followReferences_103 : decode cX0_followReferences 103 = .ok (.return_, 1) := by decide +kernel
theorem dX0_holdChildren_0 : decode cX0_holdChildren 0 = .ok (.iconst 0, 1) := by decide +kernel
theorem dX0_holdChildren_1 : decode cX0_holdChildren 1 = .ok (.istore_n 2, 1) := by decide +kernel
theorem dX0_holdChildren_2 : decode cX0_holdChildren 2 = .ok (.iload_n 2, 1) := by decide +kernel
theorem dX0_holdChildren_3 : decode cX0_holdChildren 3 = .ok (.aload_n 0, 1) := by decide +kernel
theorem dX0_holdChildren_4 : decode cX0_holdChildren 4 = .ok (.getfield 15, 3) := by decide +kernel
theorem dX0_holdChildren_7 : decode cX0_holdChildren 7 = .ok (.getfield 53, 3) := by decide +kernel
theorem dX0_holdChildren_10 : decode cX0_holdChildren 10 = .ok (.iload_n 1, 1) := by decide +kernel
theorem dX0_holdChildren_11 : decode cX0_holdChildren 11 = .ok (.invokevirtual 80, 3) := by decide +kernel
theorem dX0_holdChildren_14 : decode cX0_holdChildren 14 = .ok (.if_icmp .ge 29, 3) := by decide +kernel
theorem dX0_holdChildren_17 : decode cX0_holdChildren 17 = .ok (.aload_n 0, 1) := by decide +kernel
theorem dX0_holdChildren_18 : decode cX0_holdChildren 18 = .ok (.getfield 9, 3) := by decide +kernel
theorem dX0_holdChildren_21 : decode cX0_holdChildren 21 = .ok (.aload_n 0, 1) := by decide +kernel
theorem dX0_holdChildren_22 : decode cX0_holdChildren 22 = .ok (.getfield 15, 3) := by decide +kernel
theorem dX0_holdChildren_25 : decode cX0_holdChildren 25 = .ok (.getfield 53, 3) := by decide +kernel
theorem dX0_holdChildren_28 : decode cX0_holdChildren 28 = .ok (.iload_n 1, 1) := by decide +kernel
theorem dX0_holdChildren_29 : decode cX0_holdChildren 29 = .ok (.iload_n 2, 1) := by decide +kernel
theorem dX0_holdChildren_30 : decode cX0_holdChildren 30 = .ok (.invokevirtual 124, 3) := by decide +kernel
theorem dX0_holdChildren_33 : decode cX0_holdChildren 33 = .ok (.iconst 1, 1) := by decide +kernel
theorem dX0_holdChildren_34 : decode cX0_holdChildren 34 = .ok (.invokestatic 117, 3) := by decide +kernel
theorem dX0_holdChildren_37 : decode cX0_holdChildren 37 = .ok (.iinc 2 1, 3) := by decide +kernel
theorem dX0_holdChildren_40 : decode cX0_holdChildren 40 = .ok (.goto (-38), 3) := by decide +kernel
theorem dX0_holdChildren_43 : decode cX0_holdChildren 43 = .ok (.return_, 1) := by decide +kernel
theorem dX1_init_0 : decode cX1_init 0 = .ok (.aload_n 0, 1) := by decide +kernel
theorem dX1_init_1 : decode cX1_init 1 = .ok (.invokespecial 3, 3) := by decide +kernel
theorem dX1_init_4 : decode cX1_init 4 = .ok (.aload_n 0, 1) := by decide +kernel
theorem dX1_init_5 : decode cX1_init 5 = .ok (.bipush 8, 2) := by decide +kernel
theorem dX1_init_7 : decode cX1_init 7 = .ok (.newarray .int, 2) := by decide +kernel
theorem dX1_init_9 : decode cX1_init 9 = .ok (.putfield 9, 3) := by decide +kernel
theorem dX1_init_12 : decode cX1_init 12 = .ok (.aload_n 0, 1) := by decide +kernel
theorem dX1_init_13 : decode cX1_init 13 = .ok (.bipush 8, 2) := by decide +kernel
theorem dX1_init_15 : decode cX1_init 15 = .ok (.newarray .int, 2) := by decide +kernel
theorem dX1_init_17 : decode cX1_init 17 = .ok (.putfield 15, 3) := by decide +kernel
theorem dX1_init_20 : decode cX1_init 20 = .ok (.aload_n 0, 1) := by decide +kernel
theorem dX1_init_21 : decode cX1_init 21 = .ok (.sipush 320, 3) := by decide +kernel
theorem dX1_init_24 : decode cX1_init 24 = .ok (.newarray .boolean, 2) := by decide +kernel
theorem dX1_init_26 : decode cX1_init 26 = .ok (.putfield 18, 3) := by decide +kernel
theorem dX1_init_29 : decode cX1_init 29 = .ok (.aload_n 0, 1) := by decide +kernel
theorem dX1_init_30 : decode cX1_init 30 = .ok (.sipush 1104, 3) := by decide +kernel
theorem dX1_init_33 : decode cX1_init 33 = .ok (.newarray .boolean, 2) := by decide +kernel
theorem dX1_init_35 : decode cX1_init 35 = .ok (.putfield 22, 3) := by decide +kernel
theorem dX1_init_38 : decode cX1_init 38 = .ok (.return_, 1) := by decide +kernel
theorem dX1_forget_0 : decode cX1_forget 0 = .ok (.aload_n 0, 1) := by decide +kernel
theorem dX1_forget_1 : decode cX1_forget 1 = .ok (.iconst 0, 1) := by decide +kernel
theorem dX1_forget_2 : decode cX1_forget 2 = .ok (.putfield 25, 3) := by decide +kernel
theorem dX1_forget_5 : decode cX1_forget 5 = .ok (.return_, 1) := by decide +kernel
theorem dX1_keep_0 : decode cX1_keep 0 = .ok (.aload_n 0, 1) := by decide +kernel
theorem dX1_keep_1 : decode cX1_keep 1 = .ok (.getfield 9, 3) := by decide +kernel
theorem dX1_keep_4 : decode cX1_keep 4 = .ok (.aload_n 0, 1) := by decide +kernel
theorem dX1_keep_5 : decode cX1_keep 5 = .ok (.getfield 29, 3) := by decide +kernel
theorem dX1_keep_8 : decode cX1_keep 8 = .ok (.aload_n 1, 1) := by decide +kernel
theorem dX1_keep_9 : decode cX1_keep 9 = .ok (.getfield 32, 3) := by decide +kernel
theorem dX1_keep_12 : decode cX1_keep 12 = .ok (.getfield 38, 3) := by decide +kernel
theorem dX1_keep_15 : decode cX1_keep 15 = .ok (.invokestatic 41, 3) := by decide +kernel
theorem dX1_keep_18 : decode cX1_keep 18 = .ok (.aload_n 0, 1) := by decide +kernel
theorem dX1_keep_19 : decode cX1_keep 19 = .ok (.getfield 15, 3) := by decide +kernel
theorem dX1_keep_22 : decode cX1_keep 22 = .ok (.aload_n 0, 1) := by decide +kernel
theorem dX1_keep_23 : decode cX1_keep 23 = .ok (.getfield 29, 3) := by decide +kernel
theorem dX1_keep_26 : decode cX1_keep 26 = .ok (.aload_n 1, 1) := by decide +kernel
theorem dX1_keep_27 : decode cX1_keep 27 = .ok (.getfield 45, 3) := by decide +kernel
theorem dX1_keep_30 : decode cX1_keep 30 = .ok (.getfield 49, 3) := by decide +kernel
theorem dX1_keep_33 : decode cX1_keep 33 = .ok (.invokestatic 41, 3) := by decide +kernel
theorem dX1_keep_36 : decode cX1_keep 36 = .ok (.aload_n 1, 1) := by decide +kernel
theorem dX1_keep_37 : decode cX1_keep 37 = .ok (.getfield 32, 3) := by decide +kernel
theorem dX1_keep_40 : decode cX1_keep 40 = .ok (.getfield 54, 3) := by decide +kernel
theorem dX1_keep_43 : decode cX1_keep 43 = .ok (.iconst 0, 1) := by decide +kernel
theorem dX1_keep_44 : decode cX1_keep 44 = .ok (.aload_n 0, 1) := by decide +kernel
theorem dX1_keep_45 : decode cX1_keep 45 = .ok (.getfield 18, 3) := by decide +kernel
theorem dX1_keep_48 : decode cX1_keep 48 = .ok (.aload_n 0, 1) := by decide +kernel
theorem dX1_keep_49 : decode cX1_keep 49 = .ok (.getfield 29, 3) := by decide +kernel
theorem dX1_keep_52 : decode cX1_keep 52 = .ok (.bipush 40, 2) := by decide +kernel
theorem dX1_keep_54 : decode cX1_keep 54 = .ok (.imul, 1) := by decide +kernel
theorem dX1_keep_55 : decode cX1_keep 55 = .ok (.bipush 40, 2) := by decide +kernel
theorem dX1_keep_57 : decode cX1_keep 57 = .ok (.invokestatic 55, 3) := by decide +kernel
theorem dX1_keep_60 : decode cX1_keep 60 = .ok (.aload_n 1, 1) := by decide +kernel
theorem dX1_keep_61 : decode cX1_keep 61 = .ok (.getfield 45, 3) := by decide +kernel
theorem dX1_keep_64 : decode cX1_keep 64 = .ok (.getfield 59, 3) := by decide +kernel
theorem dX1_keep_67 : decode cX1_keep 67 = .ok (.iconst 0, 1) := by decide +kernel
theorem dX1_keep_68 : decode cX1_keep 68 = .ok (.aload_n 0, 1) := by decide +kernel
theorem dX1_keep_69 : decode cX1_keep 69 = .ok (.getfield 22, 3) := by decide +kernel
theorem dX1_keep_72 : decode cX1_keep 72 = .ok (.aload_n 0, 1) := by decide +kernel
theorem dX1_keep_73 : decode cX1_keep 73 = .ok (.getfield 29, 3) := by decide +kernel
theorem dX1_keep_76 : decode cX1_keep 76 = .ok (.sipush 138, 3) := by decide +kernel
theorem dX1_keep_79 : decode cX1_keep 79 = .ok (.imul, 1) := by decide +kernel
theorem dX1_keep_80 : decode cX1_keep 80 = .ok (.sipush 138, 3) := by decide +kernel
theorem dX1_keep_83 : decode cX1_keep 83 = .ok (.invokestatic 55, 3) := by decide +kernel
theorem dX1_keep_86 : decode cX1_keep 86 = .ok (.aload_n 0, 1) := by decide +kernel
theorem dX1_keep_87 : decode cX1_keep 87 = .ok (.aload_n 0, 1) := by decide +kernel
theorem dX1_keep_88 : decode cX1_keep 88 = .ok (.getfield 29, 3) := by decide +kernel
theorem dX1_keep_91 : decode cX1_keep 91 = .ok (.iconst 1, 1) := by decide +kernel
theorem dX1_keep_92 : decode cX1_keep 92 = .ok (.iadd, 1) := by decide +kernel
theorem dX1_keep_93 : decode cX1_keep 93 = .ok (.bipush 8, 2) := by decide +kernel
theorem dX1_keep_95 : decode cX1_keep 95 = .ok (.irem, 1) := by decide +kernel
theorem dX1_keep_96 : decode cX1_keep 96 = .ok (.putfield 29, 3) := by decide +kernel
theorem dX1_keep_99 : decode cX1_keep 99 = .ok (.aload_n 0, 1) := by decide +kernel
theorem dX1_keep_100 : decode cX1_keep 100 = .ok (.aload_n 0, 1) := by decide +kernel
theorem dX1_keep_101 : decode cX1_keep 101 = .ok (.getfield 25, 3) := by decide +kernel
theorem dX1_keep_104 : decode cX1_keep 104 = .ok (.iconst 1, 1) := by decide +kernel
theorem dX1_keep_105 : decode cX1_keep 105 = .ok (.iadd, 1) := by decide +kernel
theorem dX1_keep_106 : decode cX1_keep 106 = .ok (.bipush 8, 2) := by decide +kernel
theorem dX1_keep_108 : decode cX1_keep 108 = .ok (.invokestatic 60, 3) := by decide +kernel
theorem dX1_keep_111 : decode cX1_keep 111 = .ok (.putfield 25, 3) := by decide +kernel
theorem dX1_keep_114 : decode cX1_keep 114 = .ok (.return_, 1) := by decide +kernel
theorem dX2_init_0 : decode cX2_init 0 = .ok (.aload_n 0, 1) := by decide +kernel
theorem dX2_init_1 : decode cX2_init 1 = .ok (.invokespecial 3, 3) := by decide +kernel
theorem dX2_init_4 : decode cX2_init 4 = .ok (.aload_n 0, 1) := by decide +kernel
theorem dX2_init_5 : decode cX2_init 5 = .ok (.sipush 600, 3) := by decide +kernel
theorem dX2_init_8 : decode cX2_init 8 = .ok (.newarray .int, 2) := by decide +kernel
theorem dX2_init_10 : decode cX2_init 10 = .ok (.putfield 9, 3) := by decide +kernel
theorem dX2_init_13 : decode cX2_init 13 = .ok (.return_, 1) := by decide +kernel
theorem dX2_hasRoomForBlock_0 : decode cX2_hasRoomForBlock 0 = .ok (.aload_n 0, 1) := by decide +kernel
theorem dX2_hasRoomForBlock_1 : decode cX2_hasRoomForBlock 1 = .ok (.getfield 15, 3) := by decide +kernel
theorem dX2_hasRoomForBlock_4 : decode cX2_hasRoomForBlock 4 = .ok (.bipush 20, 2) := by decide +kernel
theorem dX2_hasRoomForBlock_6 : decode cX2_hasRoomForBlock 6 = .ok (.iadd, 1) := by decide +kernel
theorem dX2_hasRoomForBlock_7 : decode cX2_hasRoomForBlock 7 = .ok (.sipush 600, 3) := by decide +kernel
theorem dX2_hasRoomForBlock_10 : decode cX2_hasRoomForBlock 10 = .ok (.if_icmp .gt 7, 3) := by decide +kernel
theorem dX2_hasRoomForBlock_13 : decode cX2_hasRoomForBlock 13 = .ok (.iconst 1, 1) := by decide +kernel
theorem dX2_hasRoomForBlock_14 : decode cX2_hasRoomForBlock 14 = .ok (.goto 4, 3) := by decide +kernel
theorem dX2_hasRoomForBlock_17 : decode cX2_hasRoomForBlock 17 = .ok (.iconst 0, 1) := by decide +kernel
theorem dX2_hasRoomForBlock_18 : decode cX2_hasRoomForBlock 18 = .ok (.ireturn, 1) := by decide +kernel
theorem dX2_addWord_0 : decode cX2_addWord 0 = .ok (.aload_n 0, 1) := by decide +kernel
theorem dX2_addWord_1 : decode cX2_addWord 1 = .ok (.iload_n 1, 1) := by decide +kernel
theorem dX2_addWord_2 : decode cX2_addWord 2 = .ok (.bipush 24, 2) := by decide +kernel
theorem dX2_addWord_4 : decode cX2_addWord 4 = .ok (.iushr, 1) := by decide +kernel
theorem dX2_addWord_5 : decode cX2_addWord 5 = .ok (.invokevirtual 19, 3) := by decide +kernel
theorem dX2_addWord_8 : decode cX2_addWord 8 = .ok (.aload_n 0, 1) := by decide +kernel
theorem dX2_addWord_9 : decode cX2_addWord 9 = .ok (.iload_n 1, 1) := by decide +kernel
theorem dX2_addWord_10 : decode cX2_addWord 10 = .ok (.bipush 16, 2) := by decide +kernel
theorem dX2_addWord_12 : decode cX2_addWord 12 = .ok (.iushr, 1) := by decide +kernel
theorem dX2_addWord_13 : decode cX2_addWord 13 = .ok (.sipush 255, 3) := by decide +kernel
theorem dX2_addWord_16 : decode cX2_addWord 16 = .ok (.iand, 1) := by decide +kernel
theorem dX2_addWord_17 : decode cX2_addWord 17 = .ok (.invokevirtual 19, 3) := by decide +kernel
theorem dX2_addWord_20 : decode cX2_addWord 20 = .ok (.aload_n 0, 1) := by decide +kernel
theorem dX2_addWord_21 : decode cX2_addWord 21 = .ok (.iload_n 1, 1) := by decide +kernel
theorem dX2_addWord_22 : decode cX2_addWord 22 = .ok (.bipush 8, 2) := by decide +kernel
theorem dX2_addWord_24 : decode cX2_addWord 24 = .ok (.iushr, 1) := by decide +kernel
theorem dX2_addWord_25 : decode cX2_addWord 25 = .ok (.sipush 255, 3) := by decide +kernel
theorem dX2_addWord_28 : decode cX2_addWord 28 = .ok (.iand, 1) := by decide +kernel
theorem dX2_addWord_29 : decode cX2_addWord 29 = .ok (.invokevirtual 19, 3) := by decide +kernel
theorem dX2_addWord_32 : decode cX2_addWord 32 = .ok (.aload_n 0, 1) := by decide +kernel
theorem dX2_addWord_33 : decode cX2_addWord 33 = .ok (.iload_n 1, 1) := by decide +kernel
theorem dX2_addWord_34 : decode cX2_addWord 34 = .ok (.sipush 255, 3) := by decide +kernel
theorem dX2_addWord_37 : decode cX2_addWord 37 = .ok (.iand, 1) := by decide +kernel
theorem dX2_addWord_38 : decode cX2_addWord 38 = .ok (.invokevirtual 19, 3) := by decide +kernel
theorem dX2_addWord_41 : decode cX2_addWord 41 = .ok (.return_, 1) := by decide +kernel
theorem dX2_addByte_0 : decode cX2_addByte 0 = .ok (.aload_n 0, 1) := by decide +kernel
theorem dX2_addByte_1 : decode cX2_addByte 1 = .ok (.getfield 9, 3) := by decide +kernel
theorem dX2_addByte_4 : decode cX2_addByte 4 = .ok (.aload_n 0, 1) := by decide +kernel
theorem dX2_addByte_5 : decode cX2_addByte 5 = .ok (.getfield 15, 3) := by decide +kernel
theorem dX2_addByte_8 : decode cX2_addByte 8 = .ok (.iload_n 1, 1) := by decide +kernel
theorem dX2_addByte_9 : decode cX2_addByte 9 = .ok (.invokestatic 23, 3) := by decide +kernel
theorem dX2_addByte_12 : decode cX2_addByte 12 = .ok (.aload_n 0, 1) := by decide +kernel
theorem dX2_addByte_13 : decode cX2_addByte 13 = .ok (.dup, 1) := by decide +kernel
theorem dX2_addByte_14 : decode cX2_addByte 14 = .ok (.getfield 15, 3) := by decide +kernel
theorem dX2_addByte_17 : decode cX2_addByte 17 = .ok (.iconst 1, 1) := by decide +kernel
theorem dX2_addByte_18 : decode cX2_addByte 18 = .ok (.iadd, 1) := by decide +kernel
theorem dX2_addByte_19 : decode cX2_addByte 19 = .ok (.putfield 15, 3) := by decide +kernel
theorem dX2_addByte_22 : decode cX2_addByte 22 = .ok (.return_, 1) := by decide +kernel
theorem dX2_byteAt_0 : decode cX2_byteAt 0 = .ok (.iload_n 1, 1) := by decide +kernel
theorem dX2_byteAt_1 : decode cX2_byteAt 1 = .ok (.ifCond .lt 29, 3) := by decide +kernel
theorem dX2_byteAt_4 : decode cX2_byteAt 4 = .ok (.iload_n 1, 1) := by decide +kernel
theorem dX2_byteAt_5 : decode cX2_byteAt 5 = .ok (.aload_n 0, 1) := by decide +kernel
theorem dX2_byteAt_6 : decode cX2_byteAt 6 = .ok (.getfield 15, 3) := by decide +kernel
theorem dX2_byteAt_9 : decode cX2_byteAt 9 = .ok (.if_icmp .ge 21, 3) := by decide +kernel
theorem dX2_byteAt_12 : decode cX2_byteAt 12 = .ok (.iload_n 1, 1) := by decide +kernel
theorem dX2_byteAt_13 : decode cX2_byteAt 13 = .ok (.aload_n 0, 1) := by decide +kernel
theorem dX2_byteAt_14 : decode cX2_byteAt 14 = .ok (.getfield 9, 3) := by decide +kernel
theorem dX2_byteAt_17 : decode cX2_byteAt 17 = .ok (.arraylength, 1) := by decide +kernel
theorem dX2_byteAt_18 : decode cX2_byteAt 18 = .ok (.if_icmp .ge 12, 3) := by decide +kernel
theorem dX2_byteAt_21 : decode cX2_byteAt 21 = .ok (.aload_n 0, 1) := by decide +kernel
theorem dX2_byteAt_22 : decode cX2_byteAt 22 = .ok (.getfield 9, 3) := by decide +kernel
theorem dX2_byteAt_25 : decode cX2_byteAt 25 = .ok (.iload_n 1, 1) := by decide +kernel
theorem dX2_byteAt_26 : decode cX2_byteAt 26 = .ok (.iaload, 1) := by decide +kernel
theorem dX2_byteAt_27 : decode cX2_byteAt 27 = .ok (.goto 4, 3) := by decide +kernel
theorem dX2_byteAt_30 : decode cX2_byteAt 30 = .ok (.iconst (-1), 1) := by decide +kernel
theorem dX2_byteAt_31 : decode cX2_byteAt 31 = .ok (.ireturn, 1) := by decide +kernel
theorem dX3_init_0 : decode cX3_init 0 = .ok (.aload_n 0, 1) := by decide +kernel
theorem dX3_init_1 : decode cX3_init 1 = .ok (.invokespecial 3, 3) := by decide +kernel
theorem dX3_init_4 : decode cX3_init 4 = .ok (.aload_n 0, 1) := by decide +kernel
theorem dX3_init_5 : decode cX3_init 5 = .ok (.sipush 138, 3) := by decide +kernel
theorem dX3_init_8 : decode cX3_init 8 = .ok (.newarray .int, 2) := by decide +kernel
theorem dX3_init_10 : decode cX3_init 10 = .ok (.putfield 9, 3) := by decide +kernel
theorem dX3_init_13 : decode cX3_init 13 = .ok (.aload_n 0, 1) := by decide +kernel
theorem dX3_init_14 : decode cX3_init 14 = .ok (.sipush 138, 3) := by decide +kernel
theorem dX3_init_17 : decode cX3_init 17 = .ok (.newarray .int, 2) := by decide +kernel
theorem dX3_init_19 : decode cX3_init 19 = .ok (.putfield 15, 3) := by decide +kernel
theorem dX3_init_22 : decode cX3_init 22 = .ok (.aload_n 0, 1) := by decide +kernel
theorem dX3_init_23 : decode cX3_init 23 = .ok (.sipush 552, 3) := by decide +kernel
theorem dX3_init_26 : decode cX3_init 26 = .ok (.newarray .int, 2) := by decide +kernel
theorem dX3_init_28 : decode cX3_init 28 = .ok (.putfield 18, 3) := by decide +kernel
theorem dX3_init_31 : decode cX3_init 31 = .ok (.aload_n 0, 1) := by decide +kernel
theorem dX3_init_32 : decode cX3_init 32 = .ok (.sipush 138, 3) := by decide +kernel
theorem dX3_init_35 : decode cX3_init 35 = .ok (.newarray .boolean, 2) := by decide +kernel
theorem dX3_init_37 : decode cX3_init 37 = .ok (.putfield 21, 3) := by decide +kernel
theorem dX3_init_40 : decode cX3_init 40 = .ok (.return_, 1) := by decide +kernel
theorem dX3_isStored_0 : decode cX3_isStored 0 = .ok (.iload_n 1, 1) := by decide +kernel
theorem dX3_isStored_1 : decode cX3_isStored 1 = .ok (.ifCond .lt 26, 3) := by decide +kernel
theorem dX3_isStored_4 : decode cX3_isStored 4 = .ok (.iload_n 1, 1) := by decide +kernel
theorem dX3_isStored_5 : decode cX3_isStored 5 = .ok (.aload_n 0, 1) := by decide +kernel
theorem dX3_isStored_6 : decode cX3_isStored 6 = .ok (.getfield 25, 3) := by decide +kernel
theorem dX3_isStored_9 : decode cX3_isStored 9 = .ok (.if_icmp .ge 18, 3) := by decide +kernel
theorem dX3_isStored_12 : decode cX3_isStored 12 = .ok (.aload_n 0, 1) := by decide +kernel
theorem dX3_isStored_13 : decode cX3_isStored 13 = .ok (.getfield 21, 3) := by decide +kernel
theorem dX3_isStored_16 : decode cX3_isStored 16 = .ok (.iload_n 1, 1) := by decide +kernel
theorem dX3_isStored_17 : decode cX3_isStored 17 = .ok (.invokestatic 37, 3) := by decide +kernel
theorem dX3_isStored_20 : decode cX3_isStored 20 = .ok (.ifCond .ne 7, 3) := by decide +kernel
theorem dX3_isStored_23 : decode cX3_isStored 23 = .ok (.iconst 1, 1) := by decide +kernel
theorem dX3_isStored_24 : decode cX3_isStored 24 = .ok (.goto 4, 3) := by decide +kernel
theorem dX3_isStored_27 : decode cX3_isStored 27 = .ok (.iconst 0, 1) := by decide +kernel
theorem dX3_isStored_28 : decode cX3_isStored 28 = .ok (.ireturn, 1) := by decide +kernel
theorem dX3_countStored_0 : decode cX3_countStored 0 = .ok (.iconst 0, 1) := by decide +kernel
theorem dX3_countStored_1 : decode cX3_countStored 1 = .ok (.istore_n 1, 1) := by decide +kernel
theorem dX3_countStored_2 : decode cX3_countStored 2 = .ok (.iconst 0, 1) := by decide +kernel
theorem dX3_countStored_3 : decode cX3_countStored 3 = .ok (.istore_n 2, 1) := by decide +kernel
theorem dX3_countStored_4 : decode cX3_countStored 4 = .ok (.iload_n 2, 1) := by decide +kernel
theorem dX3_countStored_5 : decode cX3_countStored 5 = .ok (.aload_n 0, 1) := by decide +kernel
theorem dX3_countStored_6 : decode cX3_countStored 6 = .ok (.getfield 25, 3) := by decide +kernel
theorem dX3_countStored_9 : decode cX3_countStored 9 = .ok (.if_icmp .ge 20, 3) := by decide +kernel
theorem dX3_countStored_12 : decode cX3_countStored 12 = .ok (.aload_n 0, 1) := by decide +kernel
theorem dX3_countStored_13 : decode cX3_countStored 13 = .ok (.iload_n 2, 1) := by decide +kernel
theorem dX3_countStored_14 : decode cX3_countStored 14 = .ok (.invokevirtual 41, 3) := by decide +kernel
theorem dX3_countStored_17 : decode cX3_countStored 17 = .ok (.ifCond .eq 6, 3) := by decide +kernel
theorem dX3_countStored_20 : decode cX3_countStored 20 = .ok (.iinc 1 1, 3) := by decide +kernel
theorem dX3_countStored_23 : decode cX3_countStored 23 = .ok (.iinc 2 1, 3) := by decide +kernel
theorem dX3_countStored_26 : decode cX3_countStored 26 = .ok (.goto (-22), 3) := by decide +kernel
theorem dX3_countStored_29 : decode cX3_countStored 29 = .ok (.iload_n 1, 1) := by decide +kernel
theorem dX3_countStored_30 : decode cX3_countStored 30 = .ok (.ireturn, 1) := by decide +kernel
theorem dX3_levelAt_0 : decode cX3_levelAt 0 = .ok (.aload_n 0, 1) := by decide +kernel
theorem dX3_levelAt_1 : decode cX3_levelAt 1 = .ok (.getfield 9, 3) := by decide +kernel
theorem dX3_levelAt_4 : decode cX3_levelAt 4 = .ok (.iload_n 1, 1) := by decide +kernel
theorem dX3_levelAt_5 : decode cX3_levelAt 5 = .ok (.invokestatic 45, 3) := by decide +kernel
theorem dX3_levelAt_8 : decode cX3_levelAt 8 = .ok (.ireturn, 1) := by decide +kernel
theorem dX3_fillAt_0 : decode cX3_fillAt 0 = .ok (.iload_n 1, 1) := by decide +kernel
theorem dX3_fillAt_1 : decode cX3_fillAt 1 = .ok (.ifCond .lt 21, 3) := by decide +kernel
theorem dX3_fillAt_4 : decode cX3_fillAt 4 = .ok (.iload_n 1, 1) := by decide +kernel
theorem dX3_fillAt_5 : decode cX3_fillAt 5 = .ok (.aload_n 0, 1) := by decide +kernel
theorem dX3_fillAt_6 : decode cX3_fillAt 6 = .ok (.getfield 15, 3) := by decide +kernel
theorem dX3_fillAt_9 : decode cX3_fillAt 9 = .ok (.arraylength, 1) := by decide +kernel
theorem dX3_fillAt_10 : decode cX3_fillAt 10 = .ok (.if_icmp .ge 12, 3) := by decide +kernel
theorem dX3_fillAt_13 : decode cX3_fillAt 13 = .ok (.aload_n 0, 1) := by decide +kernel
theorem dX3_fillAt_14 : decode cX3_fillAt 14 = .ok (.getfield 15, 3) := by decide +kernel
theorem dX3_fillAt_17 : decode cX3_fillAt 17 = .ok (.iload_n 1, 1) := by decide +kernel
theorem dX3_fillAt_18 : decode cX3_fillAt 18 = .ok (.iaload, 1) := by decide +kernel
theorem dX3_fillAt_19 : decode cX3_fillAt 19 = .ok (.goto 4, 3) := by decide +kernel
theorem dX3_fillAt_22 : decode cX3_fillAt 22 = .ok (.iconst 0, 1) := by decide +kernel
theorem dX3_fillAt_23 : decode cX3_fillAt 23 = .ok (.ireturn, 1) := by decide +kernel
theorem dX3_entryAt_0 : decode cX3_entryAt 0 = .ok (.iload_n 2, 1) := by decide +kernel
theorem dX3_entryAt_1 : decode cX3_entryAt 1 = .ok (.ifCond .lt 12, 3) := by decide +kernel
theorem dX3_entryAt_4 : decode cX3_entryAt 4 = .ok (.iload_n 2, 1) := by decide +kernel
theorem dX3_entryAt_5 : decode cX3_entryAt 5 = .ok (.aload_n 0, 1) := by decide +kernel
theorem dX3_entryAt_6 : decode cX3_entryAt 6 = .ok (.iload_n 1, 1) := by decide +kernel
theorem dX3_entryAt_7 : decode cX3_entryAt 7 = .ok (.invokevirtual 49, 3) := by decide +kernel
theorem dX3_entryAt_10 : decode cX3_entryAt 10 = .ok (.if_icmp .lt 5, 3) := by decide +kernel
theorem dX3_entryAt_13 : decode cX3_entryAt 13 = .ok (.iconst (-1), 1) := by decide +kernel
theorem dX3_entryAt_14 : decode cX3_entryAt 14 = .ok (.ireturn, 1) := by decide +kernel
theorem dX3_entryAt_15 : decode cX3_entryAt 15 = .ok (.aload_n 0, 1) := by decide +kernel
theorem dX3_entryAt_16 : decode cX3_entryAt 16 = .ok (.getfield 18, 3) := by decide +kernel
theorem dX3_entryAt_19 : decode cX3_entryAt 19 = .ok (.iload_n 1, 1) := by decide +kernel
theorem dX3_entryAt_20 : decode cX3_entryAt 20 = .ok (.iconst 4, 1) := by decide +kernel
theorem dX3_entryAt_21 : decode cX3_entryAt 21 = .ok (.imul, 1) := by decide +kernel
theorem dX3_entryAt_22 : decode cX3_entryAt 22 = .ok (.iload_n 2, 1) := by decide +kernel
theorem dX3_entryAt_23 : decode cX3_entryAt 23 = .ok (.iadd, 1) := by decide +kernel
theorem dX3_entryAt_24 : decode cX3_entryAt 24 = .ok (.invokestatic 45, 3) := by decide +kernel
theorem dX3_entryAt_27 : decode cX3_entryAt 27 = .ok (.ireturn, 1) := by decide +kernel
theorem dX3_childAt_0 : decode cX3_childAt 0 = .ok (.aload_n 0, 1) := by decide +kernel
theorem dX3_childAt_1 : decode cX3_childAt 1 = .ok (.iload_n 1, 1) := by decide +kernel
theorem dX3_childAt_2 : decode cX3_childAt 2 = .ok (.invokevirtual 53, 3) := by decide +kernel
theorem dX3_childAt_5 : decode cX3_childAt 5 = .ok (.iconst 1, 1) := by decide +kernel
theorem dX3_childAt_6 : decode cX3_childAt 6 = .ok (.if_icmp .le 12, 3) := by decide +kernel
theorem dX3_childAt_9 : decode cX3_childAt 9 = .ok (.aload_n 0, 1) := by decide +kernel
theorem dX3_childAt_10 : decode cX3_childAt 10 = .ok (.iload_n 1, 1) := by decide +kernel
theorem dX3_childAt_11 : decode cX3_childAt 11 = .ok (.iload_n 2, 1) := by decide +kernel
theorem dX3_childAt_12 : decode cX3_childAt 12 = .ok (.invokevirtual 56, 3) := by decide +kernel
theorem dX3_childAt_15 : decode cX3_childAt 15 = .ok (.goto 4, 3) := by decide +kernel
theorem dX3_childAt_18 : decode cX3_childAt 18 = .ok (.iconst (-1), 1) := by decide +kernel
theorem dX3_childAt_19 : decode cX3_childAt 19 = .ok (.ireturn, 1) := by decide +kernel
theorem dX3_add_0 : decode cX3_add 0 = .ok (.aload_n 0, 1) := by decide +kernel
theorem dX3_add_1 : decode cX3_add 1 = .ok (.getfield 25, 3) := by decide +kernel
theorem dX3_add_4 : decode cX3_add 4 = .ok (.istore_n 2, 1) := by decide +kernel
theorem dX3_add_5 : decode cX3_add 5 = .ok (.aload_n 0, 1) := by decide +kernel
theorem dX3_add_6 : decode cX3_add 6 = .ok (.getfield 9, 3) := by decide +kernel
theorem dX3_add_9 : decode cX3_add 9 = .ok (.iload_n 2, 1) := by decide +kernel
theorem dX3_add_10 : decode cX3_add 10 = .ok (.iload_n 1, 1) := by decide +kernel
theorem dX3_add_11 : decode cX3_add 11 = .ok (.invokestatic 60, 3) := by decide +kernel
theorem dX3_add_14 : decode cX3_add 14 = .ok (.aload_n 0, 1) := by decide +kernel
theorem dX3_add_15 : decode cX3_add 15 = .ok (.getfield 15, 3) := by decide +kernel
theorem dX3_add_18 : decode cX3_add 18 = .ok (.iload_n 2, 1) := by decide +kernel
theorem dX3_add_19 : decode cX3_add 19 = .ok (.iconst 0, 1) := by decide +kernel
theorem dX3_add_20 : decode cX3_add 20 = .ok (.invokestatic 60, 3) := by decide +kernel
theorem dX3_add_23 : decode cX3_add 23 = .ok (.aload_n 0, 1) := by decide +kernel
theorem dX3_add_24 : decode cX3_add 24 = .ok (.getfield 21, 3) := by decide +kernel
theorem dX3_add_27 : decode cX3_add 27 = .ok (.iload_n 2, 1) := by decide +kernel
theorem dX3_add_28 : decode cX3_add 28 = .ok (.iconst 0, 1) := by decide +kernel
theorem dX3_add_29 : decode cX3_add 29 = .ok (.invokestatic 64, 3) := by decide +kernel
theorem dX3_add_32 : decode cX3_add 32 = .ok (.aload_n 0, 1) := by decide +kernel
theorem dX3_add_33 : decode cX3_add 33 = .ok (.dup, 1) := by decide +kernel
theorem dX3_add_34 : decode cX3_add 34 = .ok (.getfield 25, 3) := by decide +kernel
theorem dX3_add_37 : decode cX3_add 37 = .ok (.iconst 1, 1) := by decide +kernel
theorem dX3_add_38 : decode cX3_add 38 = .ok (.iadd, 1) := by decide +kernel
theorem dX3_add_39 : decode cX3_add 39 = .ok (.putfield 25, 3) := by decide +kernel
theorem dX3_add_42 : decode cX3_add 42 = .ok (.iload_n 2, 1) := by decide +kernel
theorem dX3_add_43 : decode cX3_add 43 = .ok (.ireturn, 1) := by decide +kernel
theorem dX3_place_0 : decode cX3_place 0 = .ok (.aload_n 0, 1) := by decide +kernel
theorem dX3_place_1 : decode cX3_place 1 = .ok (.getfield 18, 3) := by decide +kernel
theorem dX3_place_4 : decode cX3_place 4 = .ok (.iload_n 1, 1) := by decide +kernel
theorem dX3_place_5 : decode cX3_place 5 = .ok (.iconst 4, 1) := by decide +kernel
theorem dX3_place_6 : decode cX3_place 6 = .ok (.imul, 1) := by decide +kernel
theorem dX3_place_7 : decode cX3_place 7 = .ok (.iload_n 2, 1) := by decide +kernel
theorem dX3_place_8 : decode cX3_place 8 = .ok (.iadd, 1) := by decide +kernel
theorem dX3_place_9 : decode cX3_place 9 = .ok (.iload_n 3, 1) := by decide +kernel
theorem dX3_place_10 : decode cX3_place 10 = .ok (.invokestatic 60, 3) := by decide +kernel
theorem dX3_place_13 : decode cX3_place 13 = .ok (.aload_n 0, 1) := by decide +kernel
theorem dX3_place_14 : decode cX3_place 14 = .ok (.getfield 15, 3) := by decide +kernel
theorem dX3_place_17 : decode cX3_place 17 = .ok (.iload_n 1, 1) := by decide +kernel
theorem dX3_place_18 : decode cX3_place 18 = .ok (.aload_n 0, 1) := by decide +kernel
theorem dX3_place_19 : decode cX3_place 19 = .ok (.iload_n 1, 1) := by decide +kernel
theorem dX3_place_20 : decode cX3_place 20 = .ok (.invokevirtual 49, 3) := by decide +kernel
theorem dX3_place_23 : decode cX3_place 23 = .ok (.iload_n 2, 1) := by decide +kernel
theorem dX3_place_24 : decode cX3_place 24 = .ok (.iconst 1, 1) := by decide +kernel
theorem dX3_place_25 : decode cX3_place 25 = .ok (.iadd, 1) := by decide +kernel
theorem dX3_place_26 : decode cX3_place 26 = .ok (.invokestatic 68, 3) := by decide +kernel
theorem dX3_place_29 : decode cX3_place 29 = .ok (.invokestatic 60, 3) := by decide +kernel
theorem dX3_place_32 : decode cX3_place 32 = .ok (.return_, 1) := by decide +kernel
theorem dX3_addCopy_0 : decode cX3_addCopy 0 = .ok (.aload_n 0, 1) := by decide +kernel
theorem dX3_addCopy_1 : decode cX3_addCopy 1 = .ok (.iload_n 2, 1) := by decide +kernel
theorem dX3_addCopy_2 : decode cX3_addCopy 2 = .ok (.invokevirtual 73, 3) := by decide +kernel
theorem dX3_addCopy_5 : decode cX3_addCopy 5 = .ok (.istore 6, 2) := by decide +kernel
theorem dX3_addCopy_7 : decode cX3_addCopy 7 = .ok (.iconst 0, 1) := by decide +kernel
theorem dX3_addCopy_8 : decode cX3_addCopy 8 = .ok (.istore 7, 2) := by decide +kernel
theorem dX3_addCopy_10 : decode cX3_addCopy 10 = .ok (.iload 7, 2) := by decide +kernel
theorem dX3_addCopy_12 : decode cX3_addCopy 12 = .ok (.iload_n 3, 1) := by decide +kernel
theorem dX3_addCopy_13 : decode cX3_addCopy 13 = .ok (.if_icmp .ge 24, 3) := by decide +kernel
theorem dX3_addCopy_16 : decode cX3_addCopy 16 = .ok (.aload_n 0, 1) := by decide +kernel
theorem dX3_addCopy_17 : decode cX3_addCopy 17 = .ok (.iload 6, 2) := by decide +kernel
theorem dX3_addCopy_19 : decode cX3_addCopy 19 = .ok (.iload 7, 2) := by decide +kernel
theorem dX3_addCopy_21 : decode cX3_addCopy 21 = .ok (.aload_n 0, 1) := by decide +kernel
theorem dX3_addCopy_22 : decode cX3_addCopy 22 = .ok (.iload_n 1, 1) := by decide +kernel
theorem dX3_addCopy_23 : decode cX3_addCopy 23 = .ok (.iload 7, 2) := by decide +kernel
theorem dX3_addCopy_25 : decode cX3_addCopy 25 = .ok (.invokevirtual 56, 3) := by decide +kernel
theorem dX3_addCopy_28 : decode cX3_addCopy 28 = .ok (.invokevirtual 76, 3) := by decide +kernel
theorem dX3_addCopy_31 : decode cX3_addCopy 31 = .ok (.iinc 7 1, 3) := by decide +kernel
theorem dX3_addCopy_34 : decode cX3_addCopy 34 = .ok (.goto (-24), 3) := by decide +kernel
theorem dX3_addCopy_37 : decode cX3_addCopy 37 = .ok (.aload_n 0, 1) := by decide +kernel
theorem dX3_addCopy_38 : decode cX3_addCopy 38 = .ok (.iload 6, 2) := by decide +kernel
theorem dX3_addCopy_40 : decode cX3_addCopy 40 = .ok (.iload 4, 2) := by decide +kernel
theorem dX3_addCopy_42 : decode cX3_addCopy 42 = .ok (.iload 5, 2) := by decide +kernel
theorem dX3_addCopy_44 : decode cX3_addCopy 44 = .ok (.invokevirtual 76, 3) := by decide +kernel
theorem dX3_addCopy_47 : decode cX3_addCopy 47 = .ok (.iload 6, 2) := by decide +kernel
theorem dX3_addCopy_49 : decode cX3_addCopy 49 = .ok (.ireturn, 1) := by decide +kernel
theorem dX3_countReferrers_0 : decode cX3_countReferrers 0 = .ok (.iconst 0, 1) := by decide +kernel
theorem dX3_countReferrers_1 : decode cX3_countReferrers 1 = .ok (.istore_n 2, 1) := by decide +kernel
theorem dX3_countReferrers_2 : decode cX3_countReferrers 2 = .ok (.iconst 0, 1) := by decide +kernel
theorem dX3_countReferrers_3 : decode cX3_countReferrers 3 = .ok (.istore_n 3, 1) := by decide +kernel
theorem dX3_countReferrers_4 : decode cX3_countReferrers 4 = .ok (.iload_n 3, 1) := by decide +kernel
theorem dX3_countReferrers_5 : decode cX3_countReferrers 5 = .ok (.aload_n 0, 1) := by decide +kernel
theorem dX3_countReferrers_6 : decode cX3_countReferrers 6 = .ok (.getfield 25, 3) := by decide +kernel
theorem dX3_countReferrers_9 : decode cX3_countReferrers 9 = .ok (.if_icmp .ge 29, 3) := by decide +kernel
theorem dX3_countReferrers_12 : decode cX3_countReferrers 12 = .ok (.aload_n 0, 1) := by decide +kernel
theorem dX3_countReferrers_13 : decode cX3_countReferrers 13 = .ok (.iload_n 3, 1) := by decide +kernel
theorem dX3_countReferrers_14 : decode cX3_countReferrers 14 = .ok (.invokevirtual 41, 3) := by decide +kernel
theorem dX3_countReferrers_17 : decode cX3_countReferrers 17 = .ok (.ifCond .eq 15, 3) := by decide +kernel
theorem dX3_countReferrers_20 : decode cX3_countReferrers 20 = .ok (.aload_n 0, 1) := by decide +kernel
theorem dX3_countReferrers_21 : decode cX3_countReferrers 21 = .ok (.iload_n 3, 1) := by decide +kernel
theorem dX3_countReferrers_22 : decode cX3_countReferrers 22 = .ok (.iload_n 1, 1) := by decide +kernel
theorem dX3_countReferrers_23 : decode cX3_countReferrers 23 = .ok (.invokevirtual 80, 3) := by decide +kernel
theorem dX3_countReferrers_26 : decode cX3_countReferrers 26 = .ok (.ifCond .eq 6, 3) := by decide +kernel
theorem dX3_countReferrers_29 : decode cX3_countReferrers 29 = .ok (.iinc 2 1, 3) := by decide +kernel
theorem dX3_countReferrers_32 : decode cX3_countReferrers 32 = .ok (.iinc 3 1, 3) := by decide +kernel
theorem dX3_countReferrers_35 : decode cX3_countReferrers 35 = .ok (.goto (-31), 3) := by decide +kernel
theorem dX3_countReferrers_38 : decode cX3_countReferrers 38 = .ok (.iload_n 2, 1) := by decide +kernel
theorem dX3_countReferrers_39 : decode cX3_countReferrers 39 = .ok (.ireturn, 1) := by decide +kernel
theorem dX3_refersTo_0 : decode cX3_refersTo 0 = .ok (.iconst 0, 1) := by decide +kernel
theorem dX3_refersTo_1 : decode cX3_refersTo 1 = .ok (.istore_n 3, 1) := by decide +kernel
theorem dX3_refersTo_2 : decode cX3_refersTo 2 = .ok (.iload_n 3, 1) := by decide +kernel
theorem dX3_refersTo_3 : decode cX3_refersTo 3 = .ok (.aload_n 0, 1) := by decide +kernel
theorem dX3_refersTo_4 : decode cX3_refersTo 4 = .ok (.iload_n 1, 1) := by decide +kernel
theorem dX3_refersTo_5 : decode cX3_refersTo 5 = .ok (.invokevirtual 49, 3) := by decide +kernel
theorem dX3_refersTo_8 : decode cX3_refersTo 8 = .ok (.if_icmp .ge 21, 3) := by decide +kernel
theorem dX3_refersTo_11 : decode cX3_refersTo 11 = .ok (.aload_n 0, 1) := by decide +kernel
theorem dX3_refersTo_12 : decode cX3_refersTo 12 = .ok (.iload_n 1, 1) := by decide +kernel
theorem dX3_refersTo_13 : decode cX3_refersTo 13 = .ok (.iload_n 3, 1) := by decide +kernel
theorem dX3_refersTo_14 : decode cX3_refersTo 14 = .ok (.invokevirtual 84, 3) := by decide +kernel
theorem dX3_refersTo_17 : decode cX3_refersTo 17 = .ok (.iload_n 2, 1) := by decide +kernel
theorem dX3_refersTo_18 : decode cX3_refersTo 18 = .ok (.if_icmp .ne 5, 3) := by decide +kernel
theorem dX3_refersTo_21 : decode cX3_refersTo 21 = .ok (.iconst 1, 1) := by decide +kernel
theorem dX3_refersTo_22 : decode cX3_refersTo 22 = .ok (.ireturn, 1) := by decide +kernel
theorem dX3_refersTo_23 : decode cX3_refersTo 23 = .ok (.iinc 3 1, 3) := by decide +kernel
theorem dX3_refersTo_26 : decode cX3_refersTo 26 = .ok (.goto (-24), 3) := by decide +kernel
theorem dX3_refersTo_29 : decode cX3_refersTo 29 = .ok (.iconst 0, 1) := by decide +kernel
theorem dX3_refersTo_30 : decode cX3_refersTo 30 = .ok (.ireturn, 1) := by decide +kernel
theorem dX4_init_0 : decode cX4_init 0 = .ok (.aload_n 0, 1) := by decide +kernel
theorem dX4_init_1 : decode cX4_init 1 = .ok (.invokespecial 3, 3) := by decide +kernel
theorem dX4_init_4 : decode cX4_init 4 = .ok (.aload_n 0, 1) := by decide +kernel
theorem dX4_init_5 : decode cX4_init 5 = .ok (.sipush 321, 3) := by decide +kernel
theorem dX4_init_8 : decode cX4_init 8 = .ok (.newarray .int, 2) := by decide +kernel
theorem dX4_init_10 : decode cX4_init 10 = .ok (.putfield 9, 3) := by decide +kernel
theorem dX4_init_13 : decode cX4_init 13 = .ok (.return_, 1) := by decide +kernel
theorem dX5_init_0 : decode cX5_init 0 = .ok (.aload_n 0, 1) := by decide +kernel
theorem dX5_init_1 : decode cX5_init 1 = .ok (.invokespecial 3, 3) := by decide +kernel
theorem dX5_init_4 : decode cX5_init 4 = .ok (.aload_n 0, 1) := by decide +kernel
theorem dX5_init_5 : decode cX5_init 5 = .ok (.sipush 138, 3) := by decide +kernel
theorem dX5_init_8 : decode cX5_init 8 = .ok (.newarray .boolean, 2) := by decide +kernel
theorem dX5_init_10 : decode cX5_init 10 = .ok (.putfield 9, 3) := by decide +kernel
theorem dX5_init_13 : decode cX5_init 13 = .ok (.aload_n 0, 1) := by decide +kernel
theorem dX5_init_14 : decode cX5_init 14 = .ok (.aload_n 1, 1) := by decide +kernel
theorem dX5_init_15 : decode cX5_init 15 = .ok (.putfield 15, 3) := by decide +kernel
theorem dX5_init_18 : decode cX5_init 18 = .ok (.return_, 1) := by decide +kernel
theorem dX5_countGarbage_0 : decode cX5_countGarbage 0 = .ok (.aload_n 0, 1) := by decide +kernel
theorem dX5_countGarbage_1 : decode cX5_countGarbage 1 = .ok (.iconst (-1), 1) := by decide +kernel
theorem dX5_countGarbage_2 : decode cX5_countGarbage 2 = .ok (.invokevirtual 19, 3) := by decide +kernel
theorem dX5_countGarbage_5 : decode cX5_countGarbage 5 = .ok (.aload_n 0, 1) := by decide +kernel
theorem dX5_countGarbage_6 : decode cX5_countGarbage 6 = .ok (.getfield 15, 3) := by decide +kernel
theorem dX5_countGarbage_9 : decode cX5_countGarbage 9 = .ok (.getfield 23, 3) := by decide +kernel
theorem dX5_countGarbage_12 : decode cX5_countGarbage 12 = .ok (.invokevirtual 29, 3) := by decide +kernel
theorem dX5_countGarbage_15 : decode cX5_countGarbage 15 = .ok (.aload_n 0, 1) := by decide +kernel
theorem dX5_countGarbage_16 : decode cX5_countGarbage 16 = .ok (.invokevirtual 35, 3) := by decide +kernel
theorem dX5_countGarbage_19 : decode cX5_countGarbage 19 = .ok (.isub, 1) := by decide +kernel
theorem dX5_countGarbage_20 : decode cX5_countGarbage 20 = .ok (.ireturn, 1) := by decide +kernel
theorem dX5_removeGarbage_0 : decode cX5_removeGarbage 0 = .ok (.aload_n 0, 1) := by decide +kernel
theorem dX5_removeGarbage_1 : decode cX5_removeGarbage 1 = .ok (.iconst (-1), 1) := by decide +kernel
theorem dX5_removeGarbage_2 : decode cX5_removeGarbage 2 = .ok (.invokevirtual 19, 3) := by decide +kernel
theorem dX5_removeGarbage_5 : decode cX5_removeGarbage 5 = .ok (.iconst 0, 1) := by decide +kernel
theorem dX5_removeGarbage_6 : decode cX5_removeGarbage 6 = .ok (.istore_n 1, 1) := by decide +kernel
theorem dX5_removeGarbage_7 : decode cX5_removeGarbage 7 = .ok (.iconst 0, 1) := by decide +kernel
theorem dX5_removeGarbage_8 : decode cX5_removeGarbage 8 = .ok (.istore_n 2, 1) := by decide +kernel
theorem dX5_removeGarbage_9 : decode cX5_removeGarbage 9 = .ok (.iload_n 2, 1) := by decide +kernel
theorem dX5_removeGarbage_10 : decode cX5_removeGarbage 10 = .ok (.aload_n 0, 1) := by decide +kernel
theorem dX5_removeGarbage_11 : decode cX5_removeGarbage 11 = .ok (.getfield 15, 3) := by decide +kernel
theorem dX5_removeGarbage_14 : decode cX5_removeGarbage 14 = .ok (.getfield 23, 3) := by decide +kernel
theorem dX5_removeGarbage_17 : decode cX5_removeGarbage 17 = .ok (.getfield 38, 3) := by decide +kernel
theorem dX5_removeGarbage_20 : decode cX5_removeGarbage 20 = .ok (.if_icmp .ge 49, 3) := by decide +kernel
theorem dX5_removeGarbage_23 : decode cX5_removeGarbage 23 = .ok (.aload_n 0, 1) := by decide +kernel
theorem dX5_removeGarbage_24 : decode cX5_removeGarbage 24 = .ok (.getfield 15, 3) := by decide +kernel
theorem dX5_removeGarbage_27 : decode cX5_removeGarbage 27 = .ok (.getfield 23, 3) := by decide +kernel
theorem dX5_removeGarbage_30 : decode cX5_removeGarbage 30 = .ok (.iload_n 2, 1) := by decide +kernel
theorem dX5_removeGarbage_31 : decode cX5_removeGarbage 31 = .ok (.invokevirtual 42, 3) := by decide +kernel
theorem dX5_removeGarbage_34 : decode cX5_removeGarbage 34 = .ok (.ifCond .eq 29, 3) := by decide +kernel
theorem dX5_removeGarbage_37 : decode cX5_removeGarbage 37 = .ok (.aload_n 0, 1) := by decide +kernel
theorem dX5_removeGarbage_38 : decode cX5_removeGarbage 38 = .ok (.iload_n 2, 1) := by decide +kernel
theorem dX5_removeGarbage_39 : decode cX5_removeGarbage 39 = .ok (.invokevirtual 46, 3) := by decide +kernel
theorem dX5_removeGarbage_42 : decode cX5_removeGarbage 42 = .ok (.ifCond .ne 21, 3) := by decide +kernel
theorem dX5_removeGarbage_45 : decode cX5_removeGarbage 45 = .ok (.aload_n 0, 1) := by decide +kernel
theorem dX5_removeGarbage_46 : decode cX5_removeGarbage 46 = .ok (.getfield 15, 3) := by decide +kernel
theorem dX5_removeGarbage_49 : decode cX5_removeGarbage 49 = .ok (.getfield 23, 3) := by decide +kernel
theorem dX5_removeGarbage_52 : decode cX5_removeGarbage 52 = .ok (.getfield 49, 3) := by decide +kernel
theorem dX5_removeGarbage_55 : decode cX5_removeGarbage 55 = .ok (.iload_n 2, 1) := by decide +kernel
theorem dX5_removeGarbage_56 : decode cX5_removeGarbage 56 = .ok (.iconst 1, 1) := by decide +kernel
theorem dX5_removeGarbage_57 : decode cX5_removeGarbage 57 = .ok (.invokestatic 52, 3) := by decide +kernel
theorem dX5_removeGarbage_60 : decode cX5_removeGarbage 60 = .ok (.iinc 1 1, 3) := by decide +kernel
theorem dX5_removeGarbage_63 : decode cX5_removeGarbage 63 = .ok (.iinc 2 1, 3) := by decide +kernel
theorem dX5_removeGarbage_66 : decode cX5_removeGarbage 66 = .ok (.goto (-57), 3) := by decide +kernel
theorem dX5_removeGarbage_69 : decode cX5_removeGarbage 69 = .ok (.iload_n 1, 1) := by decide +kernel
theorem dX5_removeGarbage_70 : decode cX5_removeGarbage 70 = .ok (.ireturn, 1) := by decide +kernel
theorem dX5_countExclusive_0 : decode cX5_countExclusive 0 = .ok (.aload_n 0, 1) := by decide +kernel
theorem dX5_countExclusive_1 : decode cX5_countExclusive 1 = .ok (.iconst (-1), 1) := by decide +kernel
theorem dX5_countExclusive_2 : decode cX5_countExclusive 2 = .ok (.invokevirtual 56, 3) := by decide +kernel
theorem dX5_countExclusive_5 : decode cX5_countExclusive 5 = .ok (.aload_n 0, 1) := by decide +kernel
theorem dX5_countExclusive_6 : decode cX5_countExclusive 6 = .ok (.iload_n 1, 1) := by decide +kernel
theorem dX5_countExclusive_7 : decode cX5_countExclusive 7 = .ok (.invokevirtual 56, 3) := by decide +kernel
theorem dX5_countExclusive_10 : decode cX5_countExclusive 10 = .ok (.isub, 1) := by decide +kernel
theorem dX5_countExclusive_11 : decode cX5_countExclusive 11 = .ok (.ireturn, 1) := by decide +kernel
theorem dX5_countReachedWithout_0 : decode cX5_countReachedWithout 0 = .ok (.aload_n 0, 1) := by decide +kernel
theorem dX5_countReachedWithout_1 : decode cX5_countReachedWithout 1 = .ok (.iload_n 1, 1) := by decide +kernel
theorem dX5_countReachedWithout_2 : decode cX5_countReachedWithout 2 = .ok (.invokevirtual 19, 3) := by decide +kernel
theorem dX5_countReachedWithout_5 : decode cX5_countReachedWithout 5 = .ok (.aload_n 0, 1) := by decide +kernel
theorem dX5_countReachedWithout_6 : decode cX5_countReachedWithout 6 = .ok (.invokevirtual 35, 3) := by decide +kernel
theorem dX5_countReachedWithout_9 : decode cX5_countReachedWithout 9 = .ok (.ireturn, 1) := by decide +kernel
theorem dX5_searchWithout_0 : decode cX5_searchWithout 0 = .ok (.aload_n 0, 1) := by decide +kernel
theorem dX5_searchWithout_1 : decode cX5_searchWithout 1 = .ok (.invokevirtual 60, 3) := by decide +kernel
theorem dX5_searchWithout_4 : decode cX5_searchWithout 4 = .ok (.iconst 0, 1) := by decide +kernel
theorem dX5_searchWithout_5 : decode cX5_searchWithout 5 = .ok (.istore_n 2, 1) := by decide +kernel
theorem dX5_searchWithout_6 : decode cX5_searchWithout 6 = .ok (.iload_n 2, 1) := by decide +kernel
theorem dX5_searchWithout_7 : decode cX5_searchWithout 7 = .ok (.aload_n 0, 1) := by decide +kernel
theorem dX5_searchWithout_8 : decode cX5_searchWithout 8 = .ok (.getfield 15, 3) := by decide +kernel
theorem dX5_searchWithout_11 : decode cX5_searchWithout 11 = .ok (.getfield 63, 3) := by decide +kernel
theorem dX5_searchWithout_14 : decode cX5_searchWithout 14 = .ok (.getfield 82, 3) := by decide +kernel
theorem dX5_searchWithout_17 : decode cX5_searchWithout 17 = .ok (.if_icmp .ge 51, 3) := by decide +kernel
theorem dX5_searchWithout_20 : decode cX5_searchWithout 20 = .ok (.iload_n 2, 1) := by decide +kernel
theorem dX5_searchWithout_21 : decode cX5_searchWithout 21 = .ok (.iload_n 1, 1) := by decide +kernel
theorem dX5_searchWithout_22 : decode cX5_searchWithout 22 = .ok (.if_icmp .eq 40, 3) := by decide +kernel
theorem dX5_searchWithout_25 : decode cX5_searchWithout 25 = .ok (.aload_n 0, 1) := by decide +kernel
theorem dX5_searchWithout_26 : decode cX5_searchWithout 26 = .ok (.getfield 15, 3) := by decide +kernel
theorem dX5_searchWithout_29 : decode cX5_searchWithout 29 = .ok (.getfield 63, 3) := by decide +kernel
theorem dX5_searchWithout_32 : decode cX5_searchWithout 32 = .ok (.iload_n 2, 1) := by decide +kernel
theorem dX5_searchWithout_33 : decode cX5_searchWithout 33 = .ok (.invokevirtual 85, 3) := by decide +kernel
theorem dX5_searchWithout_36 : decode cX5_searchWithout 36 = .ok (.ifCond .eq 26, 3) := by decide +kernel
theorem dX5_searchWithout_39 : decode cX5_searchWithout 39 = .ok (.aload_n 0, 1) := by decide +kernel
theorem dX5_searchWithout_40 : decode cX5_searchWithout 40 = .ok (.aload_n 0, 1) := by decide +kernel
theorem dX5_searchWithout_41 : decode cX5_searchWithout 41 = .ok (.getfield 15, 3) := by decide +kernel
theorem dX5_searchWithout_44 : decode cX5_searchWithout 44 = .ok (.getfield 63, 3) := by decide +kernel
theorem dX5_searchWithout_47 : decode cX5_searchWithout 47 = .ok (.iload_n 2, 1) := by decide +kernel
theorem dX5_searchWithout_48 : decode cX5_searchWithout 48 = .ok (.invokevirtual 67, 3) := by decide +kernel
theorem dX5_searchWithout_51 : decode cX5_searchWithout 51 = .ok (.aload_n 0, 1) := by decide +kernel
theorem dX5_searchWithout_52 : decode cX5_searchWithout 52 = .ok (.getfield 15, 3) := by decide +kernel
theorem dX5_searchWithout_55 : decode cX5_searchWithout 55 = .ok (.iload_n 2, 1) := by decide +kernel
theorem dX5_searchWithout_56 : decode cX5_searchWithout 56 = .ok (.invokevirtual 72, 3) := by decide +kernel
theorem dX5_searchWithout_59 : decode cX5_searchWithout 59 = .ok (.invokevirtual 75, 3) := by decide +kernel
theorem dX5_searchWithout_62 : decode cX5_searchWithout 62 = .ok (.iinc 2 1, 3) := by decide +kernel
theorem dX5_searchWithout_65 : decode cX5_searchWithout 65 = .ok (.goto (-59), 3) := by decide +kernel
theorem dX5_searchWithout_68 : decode cX5_searchWithout 68 = .ok (.return_, 1) := by decide +kernel
theorem dX5_has_0 : decode cX5_has 0 = .ok (.aload_n 0, 1) := by decide +kernel
theorem dX5_has_1 : decode cX5_has 1 = .ok (.getfield 9, 3) := by decide +kernel
theorem dX5_has_4 : decode cX5_has 4 = .ok (.iload_n 1, 1) := by decide +kernel
theorem dX5_has_5 : decode cX5_has 5 = .ok (.invokestatic 88, 3) := by decide +kernel
theorem dX5_has_8 : decode cX5_has 8 = .ok (.ireturn, 1) := by decide +kernel
theorem dX5_clear_0 : decode cX5_clear 0 = .ok (.iconst 0, 1) := by decide +kernel
theorem dX5_clear_1 : decode cX5_clear 1 = .ok (.istore_n 1, 1) := by decide +kernel
theorem dX5_clear_2 : decode cX5_clear 2 = .ok (.iload_n 1, 1) := by decide +kernel
theorem dX5_clear_3 : decode cX5_clear 3 = .ok (.aload_n 0, 1) := by decide +kernel
theorem dX5_clear_4 : decode cX5_clear 4 = .ok (.getfield 9, 3) := by decide +kernel
theorem dX5_clear_7 : decode cX5_clear 7 = .ok (.arraylength, 1) := by decide +kernel
theorem dX5_clear_8 : decode cX5_clear 8 = .ok (.if_icmp .ge 16, 3) := by decide +kernel
theorem dX5_clear_11 : decode cX5_clear 11 = .ok (.aload_n 0, 1) := by decide +kernel
theorem dX5_clear_12 : decode cX5_clear 12 = .ok (.getfield 9, 3) := by decide +kernel
theorem dX5_clear_15 : decode cX5_clear 15 = .ok (.iload_n 1, 1) := by decide +kernel
theorem dX5_clear_16 : decode cX5_clear 16 = .ok (.iconst 0, 1) := by decide +kernel
theorem dX5_clear_17 : decode cX5_clear 17 = .ok (.bastore, 1) := by decide +kernel
theorem dX5_clear_18 : decode cX5_clear 18 = .ok (.iinc 1 1, 3) := by decide +kernel
theorem dX5_clear_21 : decode cX5_clear 21 = .ok (.goto (-19), 3) := by decide +kernel
theorem dX5_clear_24 : decode cX5_clear 24 = .ok (.return_, 1) := by decide +kernel
theorem dX5_visit_0 : decode cX5_visit 0 = .ok (.iload_n 2, 1) := by decide +kernel
theorem dX5_visit_1 : decode cX5_visit 1 = .ok (.iconst 1, 1) := by decide +kernel
theorem dX5_visit_2 : decode cX5_visit 2 = .ok (.if_icmp .lt 14, 3) := by decide +kernel
theorem dX5_visit_5 : decode cX5_visit 5 = .ok (.aload_n 0, 1) := by decide +kernel
theorem dX5_visit_6 : decode cX5_visit 6 = .ok (.getfield 9, 3) := by decide +kernel
theorem dX5_visit_9 : decode cX5_visit 9 = .ok (.iload_n 1, 1) := by decide +kernel
theorem dX5_visit_10 : decode cX5_visit 10 = .ok (.invokestatic 88, 3) := by decide +kernel
theorem dX5_visit_13 : decode cX5_visit 13 = .ok (.ifCond .eq 4, 3) := by decide +kernel
theorem dX5_visit_16 : decode cX5_visit 16 = .ok (.return_, 1) := by decide +kernel
theorem dX5_visit_17 : decode cX5_visit 17 = .ok (.aload_n 0, 1) := by decide +kernel
theorem dX5_visit_18 : decode cX5_visit 18 = .ok (.getfield 9, 3) := by decide +kernel
theorem dX5_visit_21 : decode cX5_visit 21 = .ok (.iload_n 1, 1) := by decide +kernel
theorem dX5_visit_22 : decode cX5_visit 22 = .ok (.iconst 1, 1) := by decide +kernel
theorem dX5_visit_23 : decode cX5_visit 23 = .ok (.invokestatic 52, 3) := by decide +kernel
theorem dX5_visit_26 : decode cX5_visit 26 = .ok (.iconst 0, 1) := by decide +kernel
theorem dX5_visit_27 : decode cX5_visit 27 = .ok (.istore_n 3, 1) := by decide +kernel
theorem dX5_visit_28 : decode cX5_visit 28 = .ok (.iload_n 2, 1) := by decide +kernel
theorem dX5_visit_29 : decode cX5_visit 29 = .ok (.iconst 1, 1) := by decide +kernel
theorem dX5_visit_30 : decode cX5_visit 30 = .ok (.if_icmp .le 43, 3) := by decide +kernel
theorem dX5_visit_33 : decode cX5_visit 33 = .ok (.iload_n 3, 1) := by decide +kernel
theorem dX5_visit_34 : decode cX5_visit 34 = .ok (.aload_n 0, 1) := by decide +kernel
theorem dX5_visit_35 : decode cX5_visit 35 = .ok (.getfield 15, 3) := by decide +kernel
theorem dX5_visit_38 : decode cX5_visit 38 = .ok (.getfield 23, 3) := by decide +kernel
theorem dX5_visit_41 : decode cX5_visit 41 = .ok (.iload_n 1, 1) := by decide +kernel
theorem dX5_visit_42 : decode cX5_visit 42 = .ok (.invokevirtual 92, 3) := by decide +kernel
theorem dX5_visit_45 : decode cX5_visit 45 = .ok (.if_icmp .ge 28, 3) := by decide +kernel
theorem dX5_visit_48 : decode cX5_visit 48 = .ok (.aload_n 0, 1) := by decide +kernel
theorem dX5_visit_49 : decode cX5_visit 49 = .ok (.aload_n 0, 1) := by decide +kernel
theorem dX5_visit_50 : decode cX5_visit 50 = .ok (.getfield 15, 3) := by decide +kernel
theorem dX5_visit_53 : decode cX5_visit 53 = .ok (.getfield 23, 3) := by decide +kernel
theorem dX5_visit_56 : decode cX5_visit 56 = .ok (.iload_n 1, 1) := by decide +kernel
theorem dX5_visit_57 : decode cX5_visit 57 = .ok (.iload_n 3, 1) := by decide +kernel
theorem dX5_visit_58 : decode cX5_visit 58 = .ok (.invokevirtual 95, 3) := by decide +kernel
theorem dX5_visit_61 : decode cX5_visit 61 = .ok (.iload_n 2, 1) := by decide +kernel
theorem dX5_visit_62 : decode cX5_visit 62 = .ok (.iconst 1, 1) := by decide +kernel
theorem dX5_visit_63 : decode cX5_visit 63 = .ok (.isub, 1) := by decide +kernel
theorem dX5_visit_64 : decode cX5_visit 64 = .ok (.invokevirtual 75, 3) := by decide +kernel
theorem dX5_visit_67 : decode cX5_visit 67 = .ok (.iinc 3 1, 3) := by decide +kernel
theorem dX5_visit_70 : decode cX5_visit 70 = .ok (.goto (-42), 3) := by decide +kernel
theorem dX5_visit_73 : decode cX5_visit 73 = .ok (.return_, 1) := by decide +kernel
theorem dX5_countReached_0 : decode cX5_countReached 0 = .ok (.iconst 0, 1) := by decide +kernel
theorem dX5_countReached_1 : decode cX5_countReached 1 = .ok (.istore_n 1, 1) := by decide +kernel
theorem dX5_countReached_2 : decode cX5_countReached 2 = .ok (.iconst 0, 1) := by decide +kernel
theorem dX5_countReached_3 : decode cX5_countReached 3 = .ok (.istore_n 2, 1) := by decide +kernel
theorem dX5_countReached_4 : decode cX5_countReached 4 = .ok (.iload_n 2, 1) := by decide +kernel
theorem dX5_countReached_5 : decode cX5_countReached 5 = .ok (.aload_n 0, 1) := by decide +kernel
theorem dX5_countReached_6 : decode cX5_countReached 6 = .ok (.getfield 15, 3) := by decide +kernel
theorem dX5_countReached_9 : decode cX5_countReached 9 = .ok (.getfield 23, 3) := by decide +kernel
theorem dX5_countReached_12 : decode cX5_countReached 12 = .ok (.getfield 38, 3) := by decide +kernel
theorem dX5_countReached_15 : decode cX5_countReached 15 = .ok (.if_icmp .ge 20, 3) := by decide +kernel
theorem dX5_countReached_18 : decode cX5_countReached 18 = .ok (.aload_n 0, 1) := by decide +kernel
theorem dX5_countReached_19 : decode cX5_countReached 19 = .ok (.iload_n 2, 1) := by decide +kernel
theorem dX5_countReached_20 : decode cX5_countReached 20 = .ok (.invokevirtual 46, 3) := by decide +kernel
theorem dX5_countReached_23 : decode cX5_countReached 23 = .ok (.ifCond .eq 6, 3) := by decide +kernel
theorem dX5_countReached_26 : decode cX5_countReached 26 = .ok (.iinc 1 1, 3) := by decide +kernel
theorem dX5_countReached_29 : decode cX5_countReached 29 = .ok (.iinc 2 1, 3) := by decide +kernel
theorem dX5_countReached_32 : decode cX5_countReached 32 = .ok (.goto (-28), 3) := by decide +kernel
theorem dX5_countReached_35 : decode cX5_countReached 35 = .ok (.iload_n 1, 1) := by decide +kernel
theorem dX5_countReached_36 : decode cX5_countReached 36 = .ok (.ireturn, 1) := by decide +kernel
theorem dX6_init_0 : decode cX6_init 0 = .ok (.aload_n 0, 1) := by decide +kernel
theorem dX6_init_1 : decode cX6_init 1 = .ok (.invokespecial 3, 3) := by decide +kernel
theorem dX6_init_4 : decode cX6_init 4 = .ok (.aload_n 0, 1) := by decide +kernel
theorem dX6_init_5 : decode cX6_init 5 = .ok (.bipush 120, 2) := by decide +kernel
theorem dX6_init_7 : decode cX6_init 7 = .ok (.newarray .int, 2) := by decide +kernel
theorem dX6_init_9 : decode cX6_init 9 = .ok (.putfield 11, 3) := by decide +kernel
theorem dX6_init_12 : decode cX6_init 12 = .ok (.aload_n 0, 1) := by decide +kernel
theorem dX6_init_13 : decode cX6_init 13 = .ok (.aload_n 1, 1) := by decide +kernel
theorem dX6_init_14 : decode cX6_init 14 = .ok (.putfield 15, 3) := by decide +kernel
theorem dX6_init_17 : decode cX6_init 17 = .ok (.return_, 1) := by decide +kernel
theorem dX7_init_0 : decode cX7_init 0 = .ok (.aload_n 0, 1) := by decide +kernel
theorem dX7_init_1 : decode cX7_init 1 = .ok (.invokespecial 3, 3) := by decide +kernel
theorem dX7_init_4 : decode cX7_init 4 = .ok (.aload_n 0, 1) := by decide +kernel
theorem dX7_init_5 : decode cX7_init 5 = .ok (.bipush 64, 2) := by decide +kernel
theorem dX7_init_7 : decode cX7_init 7 = .ok (.newarray .int, 2) := by decide +kernel
theorem dX7_init_9 : decode cX7_init 9 = .ok (.putfield 9, 3) := by decide +kernel
theorem dX7_init_12 : decode cX7_init 12 = .ok (.aload_n 0, 1) := by decide +kernel
theorem dX7_init_13 : decode cX7_init 13 = .ok (.aload_n 1, 1) := by decide +kernel
theorem dX7_init_14 : decode cX7_init 14 = .ok (.putfield 15, 3) := by decide +kernel
theorem dX7_init_17 : decode cX7_init 17 = .ok (.return_, 1) := by decide +kernel
theorem dX7_parse_0 : decode cX7_parse 0 = .ok (.aload_n 0, 1) := by decide +kernel
theorem dX7_parse_1 : decode cX7_parse 1 = .ok (.iconst 0, 1) := by decide +kernel
theorem dX7_parse_2 : decode cX7_parse 2 = .ok (.putfield 19, 3) := by decide +kernel
theorem dX7_parse_5 : decode cX7_parse 5 = .ok (.aload_n 0, 1) := by decide +kernel
theorem dX7_parse_6 : decode cX7_parse 6 = .ok (.iconst 0, 1) := by decide +kernel
theorem dX7_parse_7 : decode cX7_parse 7 = .ok (.putfield 23, 3) := by decide +kernel
theorem dX7_parse_10 : decode cX7_parse 10 = .ok (.aload_n 0, 1) := by decide +kernel
theorem dX7_parse_11 : decode cX7_parse 11 = .ok (.iconst 0, 1) := by decide +kernel
theorem dX7_parse_12 : decode cX7_parse 12 = .ok (.putfield 27, 3) := by decide +kernel
theorem dX7_parse_15 : decode cX7_parse 15 = .ok (.aload_n 0, 1) := by decide +kernel
theorem dX7_parse_16 : decode cX7_parse 16 = .ok (.getfield 15, 3) := by decide +kernel
theorem dX7_parse_19 : decode cX7_parse 19 = .ok (.invokevirtual 30, 3) := by decide +kernel
theorem dX7_parse_22 : decode cX7_parse 22 = .ok (.iconst 0, 1) := by decide +kernel
theorem dX7_parse_23 : decode cX7_parse 23 = .ok (.istore_n 1, 1) := by decide +kernel
theorem dX7_parse_24 : decode cX7_parse 24 = .ok (.iload_n 1, 1) := by decide +kernel
theorem dX7_parse_25 : decode cX7_parse 25 = .ok (.sipush 600, 3) := by decide +kernel
theorem dX7_parse_28 : decode cX7_parse 28 = .ok (.if_icmp .gt 51, 3) := by decide +kernel
theorem dX7_parse_31 : decode cX7_parse 31 = .ok (.aload_n 0, 1) := by decide +kernel
theorem dX7_parse_32 : decode cX7_parse 32 = .ok (.getfield 15, 3) := by decide +kernel
theorem dX7_parse_35 : decode cX7_parse 35 = .ok (.invokevirtual 35, 3) := by decide +kernel
theorem dX7_parse_38 : decode cX7_parse 38 = .ok (.ifCond .eq 41, 3) := by decide +kernel
theorem dX7_parse_41 : decode cX7_parse 41 = .ok (.aload_n 0, 1) := by decide +kernel
theorem dX7_parse_42 : decode cX7_parse 42 = .ok (.getfield 23, 3) := by decide +kernel
theorem dX7_parse_45 : decode cX7_parse 45 = .ok (.ifCond .eq 10, 3) := by decide +kernel
theorem dX7_parse_48 : decode cX7_parse 48 = .ok (.aload_n 0, 1) := by decide +kernel
theorem dX7_parse_49 : decode cX7_parse 49 = .ok (.invokevirtual 39, 3) := by decide +kernel
theorem dX7_parse_52 : decode cX7_parse 52 = .ok (.goto 7, 3) := by decide +kernel
theorem dX7_parse_55 : decode cX7_parse 55 = .ok (.aload_n 0, 1) := by decide +kernel
theorem dX7_parse_56 : decode cX7_parse 56 = .ok (.invokevirtual 43, 3) := by decide +kernel
theorem dX7_parse_59 : decode cX7_parse 59 = .ok (.istore_n 2, 1) := by decide +kernel
theorem dX7_parse_60 : decode cX7_parse 60 = .ok (.iload_n 2, 1) := by decide +kernel
theorem dX7_parse_61 : decode cX7_parse 61 = .ok (.ifCond .eq 12, 3) := by decide +kernel
theorem dX7_parse_64 : decode cX7_parse 64 = .ok (.aload_n 0, 1) := by decide +kernel
theorem dX7_parse_65 : decode cX7_parse 65 = .ok (.getfield 15, 3) := by decide +kernel
theorem dX7_parse_68 : decode cX7_parse 68 = .ok (.iload_n 2, 1) := by decide +kernel
theorem dX7_parse_69 : decode cX7_parse 69 = .ok (.invokevirtual 46, 3) := by decide +kernel
theorem dX7_parse_72 : decode cX7_parse 72 = .ok (.ireturn, 1) := by decide +kernel
theorem dX7_parse_73 : decode cX7_parse 73 = .ok (.iinc 1 1, 3) := by decide +kernel
theorem dX7_parse_76 : decode cX7_parse 76 = .ok (.goto (-52), 3) := by decide +kernel
theorem dX7_parse_79 : decode cX7_parse 79 = .ok (.aload_n 0, 1) := by decide +kernel
theorem dX7_parse_80 : decode cX7_parse 80 = .ok (.getfield 23, 3) := by decide +kernel
theorem dX7_parse_83 : decode cX7_parse 83 = .ok (.ifCond .eq 14, 3) := by decide +kernel
theorem dX7_parse_86 : decode cX7_parse 86 = .ok (.aload_n 0, 1) := by decide +kernel
theorem dX7_parse_87 : decode cX7_parse 87 = .ok (.getfield 15, 3) := by decide +kernel
theorem dX7_parse_90 : decode cX7_parse 90 = .ok (.iconst 1, 1) := by decide +kernel
theorem dX7_parse_91 : decode cX7_parse 91 = .ok (.invokevirtual 46, 3) := by decide +kernel
theorem dX7_parse_94 : decode cX7_parse 94 = .ok (.ifCond .eq 7, 3) := by decide +kernel
theorem dX7_parse_97 : decode cX7_parse 97 = .ok (.iconst 1, 1) := by decide +kernel
theorem dX7_parse_98 : decode cX7_parse 98 = .ok (.goto 4, 3) := by decide +kernel
theorem dX7_parse_101 : decode cX7_parse 101 = .ok (.iconst 0, 1) := by decide +kernel
theorem dX7_parse_102 : decode cX7_parse 102 = .ok (.ireturn, 1) := by decide +kernel
theorem dX7_open_0 : decode cX7_open 0 = .ok (.aload_n 0, 1) := by decide +kernel
theorem dX7_open_1 : decode cX7_open 1 = .ok (.iconst 1, 1) := by decide +kernel
theorem dX7_open_2 : decode cX7_open 2 = .ok (.putfield 23, 3) := by decide +kernel
theorem dX7_open_5 : decode cX7_open 5 = .ok (.aload_n 0, 1) := by decide +kernel
theorem dX7_open_6 : decode cX7_open 6 = .ok (.getfield 15, 3) := by decide +kernel
theorem dX7_open_9 : decode cX7_open 9 = .ok (.getfield 50, 3) := by decide +kernel
theorem dX7_open_12 : decode cX7_open 12 = .ok (.iconst 1, 1) := by decide +kernel
theorem dX7_open_13 : decode cX7_open 13 = .ok (.if_icmp .ne 7, 3) := by decide +kernel
theorem dX7_open_16 : decode cX7_open 16 = .ok (.iconst 0, 1) := by decide +kernel
theorem dX7_open_17 : decode cX7_open 17 = .ok (.goto 4, 3) := by decide +kernel
theorem dX7_open_20 : decode cX7_open 20 = .ok (.iconst 1, 1) := by decide +kernel
theorem dX7_open_21 : decode cX7_open 21 = .ok (.ireturn, 1) := by decide +kernel
theorem dX7_accept_0 : decode cX7_accept 0 = .ok (.aload_n 0, 1) := by decide +kernel
theorem dX7_accept_1 : decode cX7_accept 1 = .ok (.getfield 27, 3) := by decide +kernel
theorem dX7_accept_4 : decode cX7_accept 4 = .ok (.ifCond .eq 31, 3) := by decide +kernel
theorem dX7_accept_7 : decode cX7_accept 7 = .ok (.aload_n 0, 1) := by decide +kernel
theorem dX7_accept_8 : decode cX7_accept 8 = .ok (.getfield 15, 3) := by decide +kernel
theorem dX7_accept_11 : decode cX7_accept 11 = .ok (.getfield 53, 3) := by decide +kernel
theorem dX7_accept_14 : decode cX7_accept 14 = .ok (.iconst 2, 1) := by decide +kernel
theorem dX7_accept_15 : decode cX7_accept 15 = .ok (.if_icmp .ne 18, 3) := by decide +kernel
theorem dX7_accept_18 : decode cX7_accept 18 = .ok (.aload_n 0, 1) := by decide +kernel
theorem dX7_accept_19 : decode cX7_accept 19 = .ok (.aload_n 0, 1) := by decide +kernel
theorem dX7_accept_20 : decode cX7_accept 20 = .ok (.getfield 15, 3) := by decide +kernel
theorem dX7_accept_23 : decode cX7_accept 23 = .ok (.getfield 56, 3) := by decide +kernel
theorem dX7_accept_26 : decode cX7_accept 26 = .ok (.ineg, 1) := by decide +kernel
theorem dX7_accept_27 : decode cX7_accept 27 = .ok (.invokevirtual 59, 3) := by decide +kernel
theorem dX7_accept_30 : decode cX7_accept 30 = .ok (.goto 4, 3) := by decide +kernel
theorem dX7_accept_33 : decode cX7_accept 33 = .ok (.iconst 1, 1) := by decide +kernel
theorem dX7_accept_34 : decode cX7_accept 34 = .ok (.ireturn, 1) := by decide +kernel
theorem dX7_accept_35 : decode cX7_accept 35 = .ok (.aload_n 0, 1) := by decide +kernel
theorem dX7_accept_36 : decode cX7_accept 36 = .ok (.getfield 15, 3) := by decide +kernel
theorem dX7_accept_39 : decode cX7_accept 39 = .ok (.getfield 53, 3) := by decide +kernel
theorem dX7_accept_42 : decode cX7_accept 42 = .ok (.iconst 3, 1) := by decide +kernel
theorem dX7_accept_43 : decode cX7_accept 43 = .ok (.if_icmp .ne 10, 3) := by decide +kernel
theorem dX7_accept_46 : decode cX7_accept 46 = .ok (.aload_n 0, 1) := by decide +kernel
theorem dX7_accept_47 : decode cX7_accept 47 = .ok (.iconst 0, 1) := by decide +kernel
theorem dX7_accept_48 : decode cX7_accept 48 = .ok (.putfield 23, 3) := by decide +kernel
theorem dX7_accept_51 : decode cX7_accept 51 = .ok (.iconst 0, 1) := by decide +kernel
theorem dX7_accept_52 : decode cX7_accept 52 = .ok (.ireturn, 1) := by decide +kernel
theorem dX7_accept_53 : decode cX7_accept 53 = .ok (.aload_n 0, 1) := by decide +kernel
theorem dX7_accept_54 : decode cX7_accept 54 = .ok (.getfield 15, 3) := by decide +kernel
theorem dX7_accept_57 : decode cX7_accept 57 = .ok (.getfield 53, 3) := by decide +kernel
theorem dX7_accept_60 : decode cX7_accept 60 = .ok (.iconst 2, 1) := by decide +kernel
theorem dX7_accept_61 : decode cX7_accept 61 = .ok (.if_icmp .eq 16, 3) := by decide +kernel
theorem dX7_accept_64 : decode cX7_accept 64 = .ok (.aload_n 0, 1) := by decide +kernel
theorem dX7_accept_65 : decode cX7_accept 65 = .ok (.getfield 15, 3) := by decide +kernel
theorem dX7_accept_68 : decode cX7_accept 68 = .ok (.getfield 50, 3) := by decide +kernel
theorem dX7_accept_71 : decode cX7_accept 71 = .ok (.iconst 2, 1) := by decide +kernel
theorem dX7_accept_72 : decode cX7_accept 72 = .ok (.if_icmp .eq 5, 3) := by decide +kernel
theorem dX7_accept_75 : decode cX7_accept 75 = .ok (.iconst 1, 1) := by decide +kernel
theorem dX7_accept_76 : decode cX7_accept 76 = .ok (.ireturn, 1) := by decide +kernel
theorem dX7_accept_77 : decode cX7_accept 77 = .ok (.aload_n 0, 1) := by decide +kernel
theorem dX7_accept_78 : decode cX7_accept 78 = .ok (.getfield 19, 3) := by decide +kernel
theorem dX7_accept_81 : decode cX7_accept 81 = .ok (.bipush 64, 2) := by decide +kernel
theorem dX7_accept_83 : decode cX7_accept 83 = .ok (.if_icmp .lt 5, 3) := by decide +kernel
theorem dX7_accept_86 : decode cX7_accept 86 = .ok (.iconst 3, 1) := by decide +kernel
theorem dX7_accept_87 : decode cX7_accept 87 = .ok (.ireturn, 1) := by decide +kernel
theorem dX7_accept_88 : decode cX7_accept 88 = .ok (.aload_n 0, 1) := by decide +kernel
theorem dX7_accept_89 : decode cX7_accept 89 = .ok (.aload_n 0, 1) := by decide +kernel
theorem dX7_accept_90 : decode cX7_accept 90 = .ok (.getfield 15, 3) := by decide +kernel
theorem dX7_accept_93 : decode cX7_accept 93 = .ok (.getfield 50, 3) := by decide +kernel
theorem dX7_accept_96 : decode cX7_accept 96 = .ok (.iconst 2, 1) := by decide +kernel
theorem dX7_accept_97 : decode cX7_accept 97 = .ok (.if_icmp .ne 7, 3) := by decide +kernel
theorem dX7_accept_100 : decode cX7_accept 100 = .ok (.iconst 1, 1) := by decide +kernel
theorem dX7_accept_101 : decode cX7_accept 101 = .ok (.goto 4, 3) := by decide +kernel
theorem dX7_accept_104 : decode cX7_accept 104 = .ok (.iconst 0, 1) := by decide +kernel
theorem dX7_accept_105 : decode cX7_accept 105 = .ok (.putfield 27, 3) := by decide +kernel
theorem dX7_accept_108 : decode cX7_accept 108 = .ok (.aload_n 0, 1) := by decide +kernel
theorem dX7_accept_109 : decode cX7_accept 109 = .ok (.getfield 27, 3) := by decide +kernel
theorem dX7_accept_112 : decode cX7_accept 112 = .ok (.ifCond .eq 7, 3) := by decide +kernel
theorem dX7_accept_115 : decode cX7_accept 115 = .ok (.iconst 0, 1) := by decide +kernel
theorem dX7_accept_116 : decode cX7_accept 116 = .ok (.goto 14, 3) := by decide +kernel
theorem dX7_accept_119 : decode cX7_accept 119 = .ok (.aload_n 0, 1) := by decide +kernel
theorem dX7_accept_120 : decode cX7_accept 120 = .ok (.aload_n 0, 1) := by decide +kernel
theorem dX7_accept_121 : decode cX7_accept 121 = .ok (.getfield 15, 3) := by decide +kernel
theorem dX7_accept_124 : decode cX7_accept 124 = .ok (.getfield 56, 3) := by decide +kernel
theorem dX7_accept_127 : decode cX7_accept 127 = .ok (.invokevirtual 59, 3) := by decide +kernel
theorem dX7_accept_130 : decode cX7_accept 130 = .ok (.ireturn, 1) := by decide +kernel
theorem dX7_keep_0 : decode cX7_keep 0 = .ok (.aload_n 0, 1) := by decide +kernel
theorem dX7_keep_1 : decode cX7_keep 1 = .ok (.getfield 9, 3) := by decide +kernel
theorem dX7_keep_4 : decode cX7_keep 4 = .ok (.aload_n 0, 1) := by decide +kernel
theorem dX7_keep_5 : decode cX7_keep 5 = .ok (.getfield 19, 3) := by decide +kernel
theorem dX7_keep_8 : decode cX7_keep 8 = .ok (.iload_n 1, 1) := by decide +kernel
theorem dX7_keep_9 : decode cX7_keep 9 = .ok (.invokestatic 63, 3) := by decide +kernel
theorem dX7_keep_12 : decode cX7_keep 12 = .ok (.aload_n 0, 1) := by decide +kernel
theorem dX7_keep_13 : decode cX7_keep 13 = .ok (.dup, 1) := by decide +kernel
theorem dX7_keep_14 : decode cX7_keep 14 = .ok (.getfield 19, 3) := by decide +kernel
theorem dX7_keep_17 : decode cX7_keep 17 = .ok (.iconst 1, 1) := by decide +kernel
theorem dX7_keep_18 : decode cX7_keep 18 = .ok (.iadd, 1) := by decide +kernel
theorem dX7_keep_19 : decode cX7_keep 19 = .ok (.putfield 19, 3) := by decide +kernel
theorem dX7_keep_22 : decode cX7_keep 22 = .ok (.aload_n 0, 1) := by decide +kernel
theorem dX7_keep_23 : decode cX7_keep 23 = .ok (.iconst 0, 1) := by decide +kernel
theorem dX7_keep_24 : decode cX7_keep 24 = .ok (.putfield 27, 3) := by decide +kernel
theorem dX7_keep_27 : decode cX7_keep 27 = .ok (.iconst 0, 1) := by decide +kernel
theorem dX7_keep_28 : decode cX7_keep 28 = .ok (.ireturn, 1) := by decide +kernel
theorem dX8_init_0 : decode cX8_init 0 = .ok (.aload_n 0, 1) := by decide +kernel
theorem dX8_init_1 : decode cX8_init 1 = .ok (.invokespecial 3, 3) := by decide +kernel
theorem dX8_init_4 : decode cX8_init 4 = .ok (.aload_n 0, 1) := by decide +kernel
theorem dX8_init_5 : decode cX8_init 5 = .ok (.new 9, 3) := by decide +kernel
theorem dX8_init_8 : decode cX8_init 8 = .ok (.dup, 1) := by decide +kernel
theorem dX8_init_9 : decode cX8_init 9 = .ok (.invokespecial 11, 3) := by decide +kernel
theorem dX8_init_12 : decode cX8_init 12 = .ok (.putfield 12, 3) := by decide +kernel
theorem dX8_init_15 : decode cX8_init 15 = .ok (.aload_n 0, 1) := by decide +kernel
theorem dX8_init_16 : decode cX8_init 16 = .ok (.new 18, 3) := by decide +kernel
theorem dX8_init_19 : decode cX8_init 19 = .ok (.dup, 1) := by decide +kernel
theorem dX8_init_20 : decode cX8_init 20 = .ok (.invokespecial 20, 3) := by decide +kernel
theorem dX8_init_23 : decode cX8_init 23 = .ok (.putfield 21, 3) := by decide +kernel
theorem dX8_init_26 : decode cX8_init 26 = .ok (.return_, 1) := by decide +kernel
theorem dX8_begin_0 : decode cX8_begin 0 = .ok (.aload_n 0, 1) := by decide +kernel
theorem dX8_begin_1 : decode cX8_begin 1 = .ok (.getfield 12, 3) := by decide +kernel
theorem dX8_begin_4 : decode cX8_begin 4 = .ok (.iconst 0, 1) := by decide +kernel
theorem dX8_begin_5 : decode cX8_begin 5 = .ok (.putfield 32, 3) := by decide +kernel
theorem dX8_begin_8 : decode cX8_begin 8 = .ok (.aload_n 0, 1) := by decide +kernel
theorem dX8_begin_9 : decode cX8_begin 9 = .ok (.aload_n 1, 1) := by decide +kernel
theorem dX8_begin_10 : decode cX8_begin 10 = .ok (.iload_n 2, 1) := by decide +kernel
theorem dX8_begin_11 : decode cX8_begin 11 = .ok (.invokevirtual 36, 3) := by decide +kernel
theorem dX8_begin_14 : decode cX8_begin 14 = .ok (.iconst 0, 1) := by decide +kernel
theorem dX8_begin_15 : decode cX8_begin 15 = .ok (.istore_n 3, 1) := by decide +kernel
theorem dX8_begin_16 : decode cX8_begin 16 = .ok (.iconst 2, 1) := by decide +kernel
theorem dX8_begin_17 : decode cX8_begin 17 = .ok (.istore 4, 2) := by decide +kernel
theorem dX8_begin_19 : decode cX8_begin 19 = .ok (.iload 4, 2) := by decide +kernel
theorem dX8_begin_21 : decode cX8_begin 21 = .ok (.iload_n 2, 1) := by decide +kernel
theorem dX8_begin_22 : decode cX8_begin 22 = .ok (.invokestatic 40, 3) := by decide +kernel
theorem dX8_begin_25 : decode cX8_begin 25 = .ok (.if_icmp .gt 30, 3) := by decide +kernel
theorem dX8_begin_28 : decode cX8_begin 28 = .ok (.aload_n 0, 1) := by decide +kernel
theorem dX8_begin_29 : decode cX8_begin 29 = .ok (.getfield 12, 3) := by decide +kernel
theorem dX8_begin_32 : decode cX8_begin 32 = .ok (.getfield 32, 3) := by decide +kernel
theorem dX8_begin_35 : decode cX8_begin 35 = .ok (.istore 5, 2) := by decide +kernel
theorem dX8_begin_37 : decode cX8_begin 37 = .ok (.aload_n 0, 1) := by decide +kernel
theorem dX8_begin_38 : decode cX8_begin 38 = .ok (.iload 4, 2) := by decide +kernel
theorem dX8_begin_40 : decode cX8_begin 40 = .ok (.iload_n 3, 1) := by decide +kernel
theorem dX8_begin_41 : decode cX8_begin 41 = .ok (.iload 5, 2) := by decide +kernel
theorem dX8_begin_43 : decode cX8_begin 43 = .ok (.invokevirtual 44, 3) := by decide +kernel
theorem dX8_begin_46 : decode cX8_begin 46 = .ok (.iload 5, 2) := by decide +kernel
theorem dX8_begin_48 : decode cX8_begin 48 = .ok (.istore_n 3, 1) := by decide +kernel
theorem dX8_begin_49 : decode cX8_begin 49 = .ok (.iinc 4 1, 3) := by decide +kernel
theorem dX8_begin_52 : decode cX8_begin 52 = .ok (.goto (-33), 3) := by decide +kernel
theorem dX8_begin_55 : decode cX8_begin 55 = .ok (.iload_n 2, 1) := by decide +kernel
theorem dX8_begin_56 : decode cX8_begin 56 = .ok (.ifCond .ne 7, 3) := by decide +kernel
theorem dX8_begin_59 : decode cX8_begin 59 = .ok (.iconst (-1), 1) := by decide +kernel
theorem dX8_begin_60 : decode cX8_begin 60 = .ok (.goto 12, 3) := by decide +kernel
theorem dX8_begin_63 : decode cX8_begin 63 = .ok (.aload_n 0, 1) := by decide +kernel
theorem dX8_begin_64 : decode cX8_begin 64 = .ok (.getfield 12, 3) := by decide +kernel
theorem dX8_begin_67 : decode cX8_begin 67 = .ok (.getfield 32, 3) := by decide +kernel
theorem dX8_begin_70 : decode cX8_begin 70 = .ok (.iconst 1, 1) := by decide +kernel
theorem dX8_begin_71 : decode cX8_begin 71 = .ok (.isub, 1) := by decide +kernel
theorem dX8_begin_72 : decode cX8_begin 72 = .ok (.istore 4, 2) := by decide +kernel
theorem dX8_begin_74 : decode cX8_begin 74 = .ok (.aload_n 0, 1) := by decide +kernel
theorem dX8_begin_75 : decode cX8_begin 75 = .ok (.getfield 21, 3) := by decide +kernel
theorem dX8_begin_78 : decode cX8_begin 78 = .ok (.aload_n 1, 1) := by decide +kernel
theorem dX8_begin_79 : decode cX8_begin 79 = .ok (.iload_n 2, 1) := by decide +kernel
theorem dX8_begin_80 : decode cX8_begin 80 = .ok (.iload 4, 2) := by decide +kernel
theorem dX8_begin_82 : decode cX8_begin 82 = .ok (.aload_n 0, 1) := by decide +kernel
theorem dX8_begin_83 : decode cX8_begin 83 = .ok (.getfield 12, 3) := by decide +kernel
theorem dX8_begin_86 : decode cX8_begin 86 = .ok (.getfield 32, 3) := by decide +kernel
theorem dX8_begin_89 : decode cX8_begin 89 = .ok (.invokevirtual 48, 3) := by decide +kernel
theorem dX8_begin_92 : decode cX8_begin 92 = .ok (.return_, 1) := by decide +kernel
theorem dX8_addLeaves_0 : decode cX8_addLeaves 0 = .ok (.iconst (-1), 1) := by decide +kernel
theorem dX8_addLeaves_1 : decode cX8_addLeaves 1 = .ok (.istore_n 3, 1) := by decide +kernel
theorem dX8_addLeaves_2 : decode cX8_addLeaves 2 = .ok (.iconst 0, 1) := by decide +kernel
theorem dX8_addLeaves_3 : decode cX8_addLeaves 3 = .ok (.istore 4, 2) := by decide +kernel
theorem dX8_addLeaves_5 : decode cX8_addLeaves 5 = .ok (.iload 4, 2) := by decide +kernel
theorem dX8_addLeaves_7 : decode cX8_addLeaves 7 = .ok (.iload_n 2, 1) := by decide +kernel
theorem dX8_addLeaves_8 : decode cX8_addLeaves 8 = .ok (.if_icmp .ge 47, 3) := by decide +kernel
theorem dX8_addLeaves_11 : decode cX8_addLeaves 11 = .ok (.iconst 1, 1) := by decide +kernel
theorem dX8_addLeaves_12 : decode cX8_addLeaves 12 = .ok (.iload 4, 2) := by decide +kernel
theorem dX8_addLeaves_14 : decode cX8_addLeaves 14 = .ok (.invokestatic 52, 3) := by decide +kernel
theorem dX8_addLeaves_17 : decode cX8_addLeaves 17 = .ok (.istore 5, 2) := by decide +kernel
theorem dX8_addLeaves_19 : decode cX8_addLeaves 19 = .ok (.iload 5, 2) := by decide +kernel
theorem dX8_addLeaves_21 : decode cX8_addLeaves 21 = .ok (.ifCond .ne 12, 3) := by decide +kernel
theorem dX8_addLeaves_24 : decode cX8_addLeaves 24 = .ok (.aload_n 0, 1) := by decide +kernel
theorem dX8_addLeaves_25 : decode cX8_addLeaves 25 = .ok (.getfield 12, 3) := by decide +kernel
theorem dX8_addLeaves_28 : decode cX8_addLeaves 28 = .ok (.iconst 1, 1) := by decide +kernel
theorem dX8_addLeaves_29 : decode cX8_addLeaves 29 = .ok (.invokevirtual 56, 3) := by decide +kernel
theorem dX8_addLeaves_32 : decode cX8_addLeaves 32 = .ok (.istore_n 3, 1) := by decide +kernel
theorem dX8_addLeaves_33 : decode cX8_addLeaves 33 = .ok (.aload_n 0, 1) := by decide +kernel
theorem dX8_addLeaves_34 : decode cX8_addLeaves 34 = .ok (.getfield 12, 3) := by decide +kernel
theorem dX8_addLeaves_37 : decode cX8_addLeaves 37 = .ok (.iload_n 3, 1) := by decide +kernel
theorem dX8_addLeaves_38 : decode cX8_addLeaves 38 = .ok (.iload 5, 2) := by decide +kernel
theorem dX8_addLeaves_40 : decode cX8_addLeaves 40 = .ok (.aload_n 1, 1) := by decide +kernel
theorem dX8_addLeaves_41 : decode cX8_addLeaves 41 = .ok (.iload 4, 2) := by decide +kernel
theorem dX8_addLeaves_43 : decode cX8_addLeaves 43 = .ok (.invokestatic 59, 3) := by decide +kernel
theorem dX8_addLeaves_46 : decode cX8_addLeaves 46 = .ok (.invokevirtual 63, 3) := by decide +kernel
theorem dX8_addLeaves_49 : decode cX8_addLeaves 49 = .ok (.iinc 4 1, 3) := by decide +kernel
theorem dX8_addLeaves_52 : decode cX8_addLeaves 52 = .ok (.goto (-47), 3) := by decide +kernel
theorem dX8_addLeaves_55 : decode cX8_addLeaves 55 = .ok (.return_, 1) := by decide +kernel
theorem dX8_addParents_0 : decode cX8_addParents 0 = .ok (.iconst (-1), 1) := by decide +kernel
theorem dX8_addParents_1 : decode cX8_addParents 1 = .ok (.istore 4, 2) := by decide +kernel
theorem dX8_addParents_3 : decode cX8_addParents 3 = .ok (.iload_n 2, 1) := by decide +kernel
theorem dX8_addParents_4 : decode cX8_addParents 4 = .ok (.istore 5, 2) := by decide +kernel
theorem dX8_addParents_6 : decode cX8_addParents 6 = .ok (.iload 5, 2) := by decide +kernel
theorem dX8_addParents_8 : decode cX8_addParents 8 = .ok (.iload_n 3, 1) := by decide +kernel
theorem dX8_addParents_9 : decode cX8_addParents 9 = .ok (.if_icmp .ge 47, 3) := by decide +kernel
theorem dX8_addParents_12 : decode cX8_addParents 12 = .ok (.iconst 1, 1) := by decide +kernel
theorem dX8_addParents_13 : decode cX8_addParents 13 = .ok (.iload 5, 2) := by decide +kernel
theorem dX8_addParents_15 : decode cX8_addParents 15 = .ok (.iload_n 2, 1) := by decide +kernel
theorem dX8_addParents_16 : decode cX8_addParents 16 = .ok (.isub, 1) := by decide +kernel
theorem dX8_addParents_17 : decode cX8_addParents 17 = .ok (.invokestatic 52, 3) := by decide +kernel
theorem dX8_addParents_20 : decode cX8_addParents 20 = .ok (.istore 6, 2) := by decide +kernel
theorem dX8_addParents_22 : decode cX8_addParents 22 = .ok (.iload 6, 2) := by decide +kernel
theorem dX8_addParents_24 : decode cX8_addParents 24 = .ok (.ifCond .ne 13, 3) := by decide +kernel
theorem dX8_addParents_27 : decode cX8_addParents 27 = .ok (.aload_n 0, 1) := by decide +kernel
theorem dX8_addParents_28 : decode cX8_addParents 28 = .ok (.getfield 12, 3) := by decide +kernel
theorem dX8_addParents_31 : decode cX8_addParents 31 = .ok (.iload_n 1, 1) := by decide +kernel
theorem dX8_addParents_32 : decode cX8_addParents 32 = .ok (.invokevirtual 56, 3) := by decide +kernel
theorem dX8_addParents_35 : decode cX8_addParents 35 = .ok (.istore 4, 2) := by decide +kernel
theorem dX8_addParents_37 : decode cX8_addParents 37 = .ok (.aload_n 0, 1) := by decide +kernel
theorem dX8_addParents_38 : decode cX8_addParents 38 = .ok (.getfield 12, 3) := by decide +kernel
theorem dX8_addParents_41 : decode cX8_addParents 41 = .ok (.iload 4, 2) := by decide +kernel
theorem dX8_addParents_43 : decode cX8_addParents 43 = .ok (.iload 6, 2) := by decide +kernel
theorem dX8_addParents_45 : decode cX8_addParents 45 = .ok (.iload 5, 2) := by decide +kernel
theorem dX8_addParents_47 : decode cX8_addParents 47 = .ok (.invokevirtual 63, 3) := by decide +kernel
theorem dX8_addParents_50 : decode cX8_addParents 50 = .ok (.iinc 5 1, 3) := by decide +kernel
theorem dX8_addParents_53 : decode cX8_addParents 53 = .ok (.goto (-47), 3) := by decide +kernel
theorem dX8_addParents_56 : decode cX8_addParents 56 = .ok (.return_, 1) := by decide +kernel
theorem dX8_heightAt_0 : decode cX8_heightAt 0 = .ok (.aload_n 0, 1) := by decide +kernel
theorem dX8_heightAt_1 : decode cX8_heightAt 1 = .ok (.getfield 21, 3) := by decide +kernel
theorem dX8_heightAt_4 : decode cX8_heightAt 4 = .ok (.iload_n 1, 1) := by decide +kernel
theorem dX8_heightAt_5 : decode cX8_heightAt 5 = .ok (.invokevirtual 66, 3) := by decide +kernel
theorem dX8_heightAt_8 : decode cX8_heightAt 8 = .ok (.invokestatic 40, 3) := by decide +kernel
theorem dX8_heightAt_11 : decode cX8_heightAt 11 = .ok (.ireturn, 1) := by decide +kernel
theorem dX8_leafAt_0 : decode cX8_leafAt 0 = .ok (.aload_n 0, 1) := by decide +kernel
theorem dX8_leafAt_1 : decode cX8_leafAt 1 = .ok (.getfield 21, 3) := by decide +kernel
theorem dX8_leafAt_4 : decode cX8_leafAt 4 = .ok (.iload_n 1, 1) := by decide +kernel
theorem dX8_leafAt_5 : decode cX8_leafAt 5 = .ok (.invokevirtual 69, 3) := by decide +kernel
theorem dX8_leafAt_8 : decode cX8_leafAt 8 = .ok (.istore_n 3, 1) := by decide +kernel
theorem dX8_leafAt_9 : decode cX8_leafAt 9 = .ok (.aload_n 0, 1) := by decide +kernel
theorem dX8_leafAt_10 : decode cX8_leafAt 10 = .ok (.iload_n 1, 1) := by decide +kernel
theorem dX8_leafAt_11 : decode cX8_leafAt 11 = .ok (.invokevirtual 72, 3) := by decide +kernel
theorem dX8_leafAt_14 : decode cX8_leafAt 14 = .ok (.istore 4, 2) := by decide +kernel
theorem dX8_leafAt_16 : decode cX8_leafAt 16 = .ok (.iload 4, 2) := by decide +kernel
theorem dX8_leafAt_18 : decode cX8_leafAt 18 = .ok (.iconst 1, 1) := by decide +kernel
theorem dX8_leafAt_19 : decode cX8_leafAt 19 = .ok (.if_icmp .le 24, 3) := by decide +kernel
theorem dX8_leafAt_22 : decode cX8_leafAt 22 = .ok (.aload_n 0, 1) := by decide +kernel
theorem dX8_leafAt_23 : decode cX8_leafAt 23 = .ok (.getfield 12, 3) := by decide +kernel
theorem dX8_leafAt_26 : decode cX8_leafAt 26 = .ok (.iload_n 3, 1) := by decide +kernel
theorem dX8_leafAt_27 : decode cX8_leafAt 27 = .ok (.iload 4, 2) := by decide +kernel
theorem dX8_leafAt_29 : decode cX8_leafAt 29 = .ok (.iload_n 2, 1) := by decide +kernel
theorem dX8_leafAt_30 : decode cX8_leafAt 30 = .ok (.invokestatic 52, 3) := by decide +kernel
theorem dX8_leafAt_33 : decode cX8_leafAt 33 = .ok (.invokevirtual 75, 3) := by decide +kernel
theorem dX8_leafAt_36 : decode cX8_leafAt 36 = .ok (.istore_n 3, 1) := by decide +kernel
theorem dX8_leafAt_37 : decode cX8_leafAt 37 = .ok (.iinc 4 (-1), 3) := by decide +kernel
theorem dX8_leafAt_40 : decode cX8_leafAt 40 = .ok (.goto (-24), 3) := by decide +kernel
theorem dX8_leafAt_43 : decode cX8_leafAt 43 = .ok (.iload_n 3, 1) := by decide +kernel
theorem dX8_leafAt_44 : decode cX8_leafAt 44 = .ok (.ireturn, 1) := by decide +kernel
theorem dX8_elementAt_0 : decode cX8_elementAt 0 = .ok (.aload_n 0, 1) := by decide +kernel
theorem dX8_elementAt_1 : decode cX8_elementAt 1 = .ok (.getfield 12, 3) := by decide +kernel
theorem dX8_elementAt_4 : decode cX8_elementAt 4 = .ok (.aload_n 0, 1) := by decide +kernel
theorem dX8_elementAt_5 : decode cX8_elementAt 5 = .ok (.iload_n 1, 1) := by decide +kernel
theorem dX8_elementAt_6 : decode cX8_elementAt 6 = .ok (.iload_n 2, 1) := by decide +kernel
theorem dX8_elementAt_7 : decode cX8_elementAt 7 = .ok (.invokevirtual 78, 3) := by decide +kernel
theorem dX8_elementAt_10 : decode cX8_elementAt 10 = .ok (.iconst 1, 1) := by decide +kernel
theorem dX8_elementAt_11 : decode cX8_elementAt 11 = .ok (.iload_n 2, 1) := by decide +kernel
theorem dX8_elementAt_12 : decode cX8_elementAt 12 = .ok (.invokestatic 52, 3) := by decide +kernel
theorem dX8_elementAt_15 : decode cX8_elementAt 15 = .ok (.invokevirtual 75, 3) := by decide +kernel
theorem dX8_elementAt_18 : decode cX8_elementAt 18 = .ok (.ireturn, 1) := by decide +kernel
theorem dX8_addUp_0 : decode cX8_addUp 0 = .ok (.iconst 0, 1) := by decide +kernel
theorem dX8_addUp_1 : decode cX8_addUp 1 = .ok (.istore_n 2, 1) := by decide +kernel
theorem dX8_addUp_2 : decode cX8_addUp 2 = .ok (.iconst 0, 1) := by decide +kernel
theorem dX8_addUp_3 : decode cX8_addUp 3 = .ok (.istore_n 3, 1) := by decide +kernel
theorem dX8_addUp_4 : decode cX8_addUp 4 = .ok (.iload_n 3, 1) := by decide +kernel
theorem dX8_addUp_5 : decode cX8_addUp 5 = .ok (.aload_n 0, 1) := by decide +kernel
theorem dX8_addUp_6 : decode cX8_addUp 6 = .ok (.getfield 21, 3) := by decide +kernel
theorem dX8_addUp_9 : decode cX8_addUp 9 = .ok (.iload_n 1, 1) := by decide +kernel
theorem dX8_addUp_10 : decode cX8_addUp 10 = .ok (.invokevirtual 66, 3) := by decide +kernel
theorem dX8_addUp_13 : decode cX8_addUp 13 = .ok (.if_icmp .ge 18, 3) := by decide +kernel
theorem dX8_addUp_16 : decode cX8_addUp 16 = .ok (.iload_n 2, 1) := by decide +kernel
theorem dX8_addUp_17 : decode cX8_addUp 17 = .ok (.aload_n 0, 1) := by decide +kernel
theorem dX8_addUp_18 : decode cX8_addUp 18 = .ok (.iload_n 1, 1) := by decide +kernel
theorem dX8_addUp_19 : decode cX8_addUp 19 = .ok (.iload_n 3, 1) := by decide +kernel
theorem dX8_addUp_20 : decode cX8_addUp 20 = .ok (.invokevirtual 81, 3) := by decide +kernel
theorem dX8_addUp_23 : decode cX8_addUp 23 = .ok (.iadd, 1) := by decide +kernel
theorem dX8_addUp_24 : decode cX8_addUp 24 = .ok (.istore_n 2, 1) := by decide +kernel
theorem dX8_addUp_25 : decode cX8_addUp 25 = .ok (.iinc 3 1, 3) := by decide +kernel
theorem dX8_addUp_28 : decode cX8_addUp 28 = .ok (.goto (-24), 3) := by decide +kernel
theorem dX8_addUp_31 : decode cX8_addUp 31 = .ok (.iload_n 2, 1) := by decide +kernel
theorem dX8_addUp_32 : decode cX8_addUp 32 = .ok (.ireturn, 1) := by decide +kernel
theorem dX8_makeWithElement_0 : decode cX8_makeWithElement 0 = .ok (.aload_n 0, 1) := by decide +kernel
theorem dX8_makeWithElement_1 : decode cX8_makeWithElement 1 = .ok (.getfield 12, 3) := by decide +kernel
theorem dX8_makeWithElement_4 : decode cX8_makeWithElement 4 = .ok (.getfield 32, 3) := by decide +kernel
theorem dX8_makeWithElement_7 : decode cX8_makeWithElement 7 = .ok (.istore 4, 2) := by decide +kernel
theorem dX8_makeWithElement_9 : decode cX8_makeWithElement 9 = .ok (.aload_n 0, 1) := by decide +kernel
theorem dX8_makeWithElement_10 : decode cX8_makeWithElement 10 = .ok (.getfield 21, 3) := by decide +kernel
theorem dX8_makeWithElement_13 : decode cX8_makeWithElement 13 = .ok (.iload_n 1, 1) := by decide +kernel
theorem dX8_makeWithElement_14 : decode cX8_makeWithElement 14 = .ok (.invokevirtual 69, 3) := by decide +kernel
theorem dX8_makeWithElement_17 : decode cX8_makeWithElement 17 = .ok (.istore 5, 2) := by decide +kernel
theorem dX8_makeWithElement_19 : decode cX8_makeWithElement 19 = .ok (.aload_n 0, 1) := by decide +kernel
theorem dX8_makeWithElement_20 : decode cX8_makeWithElement 20 = .ok (.iload_n 1, 1) := by decide +kernel
theorem dX8_makeWithElement_21 : decode cX8_makeWithElement 21 = .ok (.iload_n 2, 1) := by decide +kernel
theorem dX8_makeWithElement_22 : decode cX8_makeWithElement 22 = .ok (.invokevirtual 81, 3) := by decide +kernel
theorem dX8_makeWithElement_25 : decode cX8_makeWithElement 25 = .ok (.iload_n 3, 1) := by decide +kernel
theorem dX8_makeWithElement_26 : decode cX8_makeWithElement 26 = .ok (.if_icmp .eq 18, 3) := by decide +kernel
theorem dX8_makeWithElement_29 : decode cX8_makeWithElement 29 = .ok (.aload_n 0, 1) := by decide +kernel
theorem dX8_makeWithElement_30 : decode cX8_makeWithElement 30 = .ok (.iload 5, 2) := by decide +kernel
theorem dX8_makeWithElement_32 : decode cX8_makeWithElement 32 = .ok (.aload_n 0, 1) := by decide +kernel
theorem dX8_makeWithElement_33 : decode cX8_makeWithElement 33 = .ok (.iload_n 1, 1) := by decide +kernel
theorem dX8_makeWithElement_34 : decode cX8_makeWithElement 34 = .ok (.invokevirtual 72, 3) := by decide +kernel
theorem dX8_makeWithElement_37 : decode cX8_makeWithElement 37 = .ok (.iload_n 2, 1) := by decide +kernel
theorem dX8_makeWithElement_38 : decode cX8_makeWithElement 38 = .ok (.iload_n 3, 1) := by decide +kernel
theorem dX8_makeWithElement_39 : decode cX8_makeWithElement 39 = .ok (.invokevirtual 84, 3) := by decide +kernel
theorem dX8_makeWithElement_42 : decode cX8_makeWithElement 42 = .ok (.istore 5, 2) := by decide +kernel
theorem dX8_makeWithElement_44 : decode cX8_makeWithElement 44 = .ok (.aload_n 0, 1) := by decide +kernel
theorem dX8_makeWithElement_45 : decode cX8_makeWithElement 45 = .ok (.getfield 21, 3) := by decide +kernel
theorem dX8_makeWithElement_48 : decode cX8_makeWithElement 48 = .ok (.iload_n 1, 1) := by decide +kernel
theorem dX8_makeWithElement_49 : decode cX8_makeWithElement 49 = .ok (.iload 5, 2) := by decide +kernel
theorem dX8_makeWithElement_51 : decode cX8_makeWithElement 51 = .ok (.aload_n 0, 1) := by decide +kernel
theorem dX8_makeWithElement_52 : decode cX8_makeWithElement 52 = .ok (.getfield 21, 3) := by decide +kernel
theorem dX8_makeWithElement_55 : decode cX8_makeWithElement 55 = .ok (.iload_n 1, 1) := by decide +kernel
theorem dX8_makeWithElement_56 : decode cX8_makeWithElement 56 = .ok (.invokevirtual 66, 3) := by decide +kernel
theorem dX8_makeWithElement_59 : decode cX8_makeWithElement 59 = .ok (.aload_n 0, 1) := by decide +kernel
theorem dX8_makeWithElement_60 : decode cX8_makeWithElement 60 = .ok (.getfield 12, 3) := by decide +kernel
theorem dX8_makeWithElement_63 : decode cX8_makeWithElement 63 = .ok (.getfield 32, 3) := by decide +kernel
theorem dX8_makeWithElement_66 : decode cX8_makeWithElement 66 = .ok (.iload 4, 2) := by decide +kernel
theorem dX8_makeWithElement_68 : decode cX8_makeWithElement 68 = .ok (.isub, 1) := by decide +kernel
theorem dX8_makeWithElement_69 : decode cX8_makeWithElement 69 = .ok (.iload_n 2, 1) := by decide +kernel
theorem dX8_makeWithElement_70 : decode cX8_makeWithElement 70 = .ok (.iload_n 3, 1) := by decide +kernel
theorem dX8_makeWithElement_71 : decode cX8_makeWithElement 71 = .ok (.invokevirtual 88, 3) := by decide +kernel
theorem dX8_makeWithElement_74 : decode cX8_makeWithElement 74 = .ok (.ireturn, 1) := by decide +kernel
theorem dX8_makeLonger_0 : decode cX8_makeLonger 0 = .ok (.aload_n 0, 1) := by decide +kernel
theorem dX8_makeLonger_1 : decode cX8_makeLonger 1 = .ok (.getfield 12, 3) := by decide +kernel
theorem dX8_makeLonger_4 : decode cX8_makeLonger 4 = .ok (.getfield 32, 3) := by decide +kernel
theorem dX8_makeLonger_7 : decode cX8_makeLonger 7 = .ok (.istore_n 3, 1) := by decide +kernel
theorem dX8_makeLonger_8 : decode cX8_makeLonger 8 = .ok (.aload_n 0, 1) := by decide +kernel
theorem dX8_makeLonger_9 : decode cX8_makeLonger 9 = .ok (.getfield 21, 3) := by decide +kernel
theorem dX8_makeLonger_12 : decode cX8_makeLonger 12 = .ok (.iload_n 1, 1) := by decide +kernel
theorem dX8_makeLonger_13 : decode cX8_makeLonger 13 = .ok (.invokevirtual 66, 3) := by decide +kernel
theorem dX8_makeLonger_16 : decode cX8_makeLonger 16 = .ok (.istore 4, 2) := by decide +kernel
theorem dX8_makeLonger_18 : decode cX8_makeLonger 18 = .ok (.aload_n 0, 1) := by decide +kernel
theorem dX8_makeLonger_19 : decode cX8_makeLonger 19 = .ok (.getfield 21, 3) := by decide +kernel
theorem dX8_makeLonger_22 : decode cX8_makeLonger 22 = .ok (.iload_n 1, 1) := by decide +kernel
theorem dX8_makeLonger_23 : decode cX8_makeLonger 23 = .ok (.invokevirtual 69, 3) := by decide +kernel
theorem dX8_makeLonger_26 : decode cX8_makeLonger 26 = .ok (.istore 5, 2) := by decide +kernel
theorem dX8_makeLonger_28 : decode cX8_makeLonger 28 = .ok (.iload 4, 2) := by decide +kernel
theorem dX8_makeLonger_30 : decode cX8_makeLonger 30 = .ok (.iconst 1, 1) := by decide +kernel
theorem dX8_makeLonger_31 : decode cX8_makeLonger 31 = .ok (.iadd, 1) := by decide +kernel
theorem dX8_makeLonger_32 : decode cX8_makeLonger 32 = .ok (.invokestatic 40, 3) := by decide +kernel
theorem dX8_makeLonger_35 : decode cX8_makeLonger 35 = .ok (.istore 6, 2) := by decide +kernel
theorem dX8_makeLonger_37 : decode cX8_makeLonger 37 = .ok (.iload 4, 2) := by decide +kernel
theorem dX8_makeLonger_39 : decode cX8_makeLonger 39 = .ok (.ifCond .le 42, 3) := by decide +kernel
theorem dX8_makeLonger_42 : decode cX8_makeLonger 42 = .ok (.iload 6, 2) := by decide +kernel
theorem dX8_makeLonger_44 : decode cX8_makeLonger 44 = .ok (.iload 4, 2) := by decide +kernel
theorem dX8_makeLonger_46 : decode cX8_makeLonger 46 = .ok (.invokestatic 40, 3) := by decide +kernel
theorem dX8_makeLonger_49 : decode cX8_makeLonger 49 = .ok (.if_icmp .le 32, 3) := by decide +kernel
theorem dX8_makeLonger_52 : decode cX8_makeLonger 52 = .ok (.aload_n 0, 1) := by decide +kernel
theorem dX8_makeLonger_53 : decode cX8_makeLonger 53 = .ok (.iconst (-1), 1) := by decide +kernel
theorem dX8_makeLonger_54 : decode cX8_makeLonger 54 = .ok (.iload 6, 2) := by decide +kernel
theorem dX8_makeLonger_56 : decode cX8_makeLonger 56 = .ok (.iconst 1, 1) := by decide +kernel
theorem dX8_makeLonger_57 : decode cX8_makeLonger 57 = .ok (.isub, 1) := by decide +kernel
theorem dX8_makeLonger_58 : decode cX8_makeLonger 58 = .ok (.iload 4, 2) := by decide +kernel
theorem dX8_makeLonger_60 : decode cX8_makeLonger 60 = .ok (.iload_n 2, 1) := by decide +kernel
theorem dX8_makeLonger_61 : decode cX8_makeLonger 61 = .ok (.invokevirtual 84, 3) := by decide +kernel
theorem dX8_makeLonger_64 : decode cX8_makeLonger 64 = .ok (.istore 7, 2) := by decide +kernel
theorem dX8_makeLonger_66 : decode cX8_makeLonger 66 = .ok (.aload_n 0, 1) := by decide +kernel
theorem dX8_makeLonger_67 : decode cX8_makeLonger 67 = .ok (.iload 6, 2) := by decide +kernel
theorem dX8_makeLonger_69 : decode cX8_makeLonger 69 = .ok (.iload 5, 2) := by decide +kernel
theorem dX8_makeLonger_71 : decode cX8_makeLonger 71 = .ok (.iload 7, 2) := by decide +kernel
theorem dX8_makeLonger_73 : decode cX8_makeLonger 73 = .ok (.invokevirtual 91, 3) := by decide +kernel
theorem dX8_makeLonger_76 : decode cX8_makeLonger 76 = .ok (.istore 5, 2) := by decide +kernel
theorem dX8_makeLonger_78 : decode cX8_makeLonger 78 = .ok (.goto 16, 3) := by decide +kernel
theorem dX8_makeLonger_81 : decode cX8_makeLonger 81 = .ok (.aload_n 0, 1) := by decide +kernel
theorem dX8_makeLonger_82 : decode cX8_makeLonger 82 = .ok (.iload 5, 2) := by decide +kernel
theorem dX8_makeLonger_84 : decode cX8_makeLonger 84 = .ok (.iload 6, 2) := by decide +kernel
theorem dX8_makeLonger_86 : decode cX8_makeLonger 86 = .ok (.iload 4, 2) := by decide +kernel
theorem dX8_makeLonger_88 : decode cX8_makeLonger 88 = .ok (.iload_n 2, 1) := by decide +kernel
theorem dX8_makeLonger_89 : decode cX8_makeLonger 89 = .ok (.invokevirtual 84, 3) := by decide +kernel
theorem dX8_makeLonger_92 : decode cX8_makeLonger 92 = .ok (.istore 5, 2) := by decide +kernel
theorem dX8_makeLonger_94 : decode cX8_makeLonger 94 = .ok (.aload_n 0, 1) := by decide +kernel
theorem dX8_makeLonger_95 : decode cX8_makeLonger 95 = .ok (.getfield 21, 3) := by decide +kernel
theorem dX8_makeLonger_98 : decode cX8_makeLonger 98 = .ok (.iload_n 1, 1) := by decide +kernel
theorem dX8_makeLonger_99 : decode cX8_makeLonger 99 = .ok (.iload 5, 2) := by decide +kernel
theorem dX8_makeLonger_101 : decode cX8_makeLonger 101 = .ok (.iload 4, 2) := by decide +kernel
theorem dX8_makeLonger_103 : decode cX8_makeLonger 103 = .ok (.iconst 1, 1) := by decide +kernel
theorem dX8_makeLonger_104 : decode cX8_makeLonger 104 = .ok (.iadd, 1) := by decide +kernel
theorem dX8_makeLonger_105 : decode cX8_makeLonger 105 = .ok (.aload_n 0, 1) := by decide +kernel
theorem dX8_makeLonger_106 : decode cX8_makeLonger 106 = .ok (.getfield 12, 3) := by decide +kernel
theorem dX8_makeLonger_109 : decode cX8_makeLonger 109 = .ok (.getfield 32, 3) := by decide +kernel
theorem dX8_makeLonger_112 : decode cX8_makeLonger 112 = .ok (.iload_n 3, 1) := by decide +kernel
theorem dX8_makeLonger_113 : decode cX8_makeLonger 113 = .ok (.isub, 1) := by decide +kernel
theorem dX8_makeLonger_114 : decode cX8_makeLonger 114 = .ok (.iload 4, 2) := by decide +kernel
theorem dX8_makeLonger_116 : decode cX8_makeLonger 116 = .ok (.iload_n 2, 1) := by decide +kernel
theorem dX8_makeLonger_117 : decode cX8_makeLonger 117 = .ok (.invokevirtual 88, 3) := by decide +kernel
theorem dX8_makeLonger_120 : decode cX8_makeLonger 120 = .ok (.ireturn, 1) := by decide +kernel
theorem dX8_makeShorter_0 : decode cX8_makeShorter 0 = .ok (.aload_n 0, 1) := by decide +kernel
theorem dX8_makeShorter_1 : decode cX8_makeShorter 1 = .ok (.getfield 12, 3) := by decide +kernel
theorem dX8_makeShorter_4 : decode cX8_makeShorter 4 = .ok (.getfield 32, 3) := by decide +kernel
theorem dX8_makeShorter_7 : decode cX8_makeShorter 7 = .ok (.istore_n 3, 1) := by decide +kernel
theorem dX8_makeShorter_8 : decode cX8_makeShorter 8 = .ok (.iconst (-1), 1) := by decide +kernel
theorem dX8_makeShorter_9 : decode cX8_makeShorter 9 = .ok (.istore 4, 2) := by decide +kernel
theorem dX8_makeShorter_11 : decode cX8_makeShorter 11 = .ok (.iload_n 2, 1) := by decide +kernel
theorem dX8_makeShorter_12 : decode cX8_makeShorter 12 = .ok (.ifCond .le 23, 3) := by decide +kernel
theorem dX8_makeShorter_15 : decode cX8_makeShorter 15 = .ok (.aload_n 0, 1) := by decide +kernel
theorem dX8_makeShorter_16 : decode cX8_makeShorter 16 = .ok (.aload_n 0, 1) := by decide +kernel
theorem dX8_makeShorter_17 : decode cX8_makeShorter 17 = .ok (.iload_n 1, 1) := by decide +kernel
theorem dX8_makeShorter_18 : decode cX8_makeShorter 18 = .ok (.iload_n 2, 1) := by decide +kernel
theorem dX8_makeShorter_19 : decode cX8_makeShorter 19 = .ok (.invokestatic 40, 3) := by decide +kernel
theorem dX8_makeShorter_22 : decode cX8_makeShorter 22 = .ok (.invokevirtual 95, 3) := by decide +kernel
theorem dX8_makeShorter_25 : decode cX8_makeShorter 25 = .ok (.iload_n 2, 1) := by decide +kernel
theorem dX8_makeShorter_26 : decode cX8_makeShorter 26 = .ok (.invokestatic 40, 3) := by decide +kernel
theorem dX8_makeShorter_29 : decode cX8_makeShorter 29 = .ok (.iload_n 2, 1) := by decide +kernel
theorem dX8_makeShorter_30 : decode cX8_makeShorter 30 = .ok (.invokevirtual 98, 3) := by decide +kernel
theorem dX8_makeShorter_33 : decode cX8_makeShorter 33 = .ok (.istore 4, 2) := by decide +kernel
theorem dX8_makeShorter_35 : decode cX8_makeShorter 35 = .ok (.aload_n 0, 1) := by decide +kernel
theorem dX8_makeShorter_36 : decode cX8_makeShorter 36 = .ok (.getfield 21, 3) := by decide +kernel
theorem dX8_makeShorter_39 : decode cX8_makeShorter 39 = .ok (.iload_n 1, 1) := by decide +kernel
theorem dX8_makeShorter_40 : decode cX8_makeShorter 40 = .ok (.iload 4, 2) := by decide +kernel
theorem dX8_makeShorter_42 : decode cX8_makeShorter 42 = .ok (.iload_n 2, 1) := by decide +kernel
theorem dX8_makeShorter_43 : decode cX8_makeShorter 43 = .ok (.aload_n 0, 1) := by decide +kernel
theorem dX8_makeShorter_44 : decode cX8_makeShorter 44 = .ok (.getfield 12, 3) := by decide +kernel
theorem dX8_makeShorter_47 : decode cX8_makeShorter 47 = .ok (.getfield 32, 3) := by decide +kernel
theorem dX8_makeShorter_50 : decode cX8_makeShorter 50 = .ok (.iload_n 3, 1) := by decide +kernel
theorem dX8_makeShorter_51 : decode cX8_makeShorter 51 = .ok (.isub, 1) := by decide +kernel
theorem dX8_makeShorter_52 : decode cX8_makeShorter 52 = .ok (.iconst (-1), 1) := by decide +kernel
theorem dX8_makeShorter_53 : decode cX8_makeShorter 53 = .ok (.iconst 0, 1) := by decide +kernel
theorem dX8_makeShorter_54 : decode cX8_makeShorter 54 = .ok (.invokevirtual 88, 3) := by decide +kernel
theorem dX8_makeShorter_57 : decode cX8_makeShorter 57 = .ok (.ireturn, 1) := by decide +kernel
theorem dX8_addRoot_0 : decode cX8_addRoot 0 = .ok (.aload_n 0, 1) := by decide +kernel
theorem dX8_addRoot_1 : decode cX8_addRoot 1 = .ok (.getfield 12, 3) := by decide +kernel
theorem dX8_addRoot_4 : decode cX8_addRoot 4 = .ok (.iload_n 1, 1) := by decide +kernel
theorem dX8_addRoot_5 : decode cX8_addRoot 5 = .ok (.invokevirtual 56, 3) := by decide +kernel
theorem dX8_addRoot_8 : decode cX8_addRoot 8 = .ok (.istore 4, 2) := by decide +kernel
theorem dX8_addRoot_10 : decode cX8_addRoot 10 = .ok (.aload_n 0, 1) := by decide +kernel
theorem dX8_addRoot_11 : decode cX8_addRoot 11 = .ok (.getfield 12, 3) := by decide +kernel
theorem dX8_addRoot_14 : decode cX8_addRoot 14 = .ok (.iload 4, 2) := by decide +kernel
theorem dX8_addRoot_16 : decode cX8_addRoot 16 = .ok (.iconst 0, 1) := by decide +kernel
theorem dX8_addRoot_17 : decode cX8_addRoot 17 = .ok (.iload_n 2, 1) := by decide +kernel
theorem dX8_addRoot_18 : decode cX8_addRoot 18 = .ok (.invokevirtual 63, 3) := by decide +kernel
theorem dX8_addRoot_21 : decode cX8_addRoot 21 = .ok (.aload_n 0, 1) := by decide +kernel
theorem dX8_addRoot_22 : decode cX8_addRoot 22 = .ok (.getfield 12, 3) := by decide +kernel
theorem dX8_addRoot_25 : decode cX8_addRoot 25 = .ok (.iload 4, 2) := by decide +kernel
theorem dX8_addRoot_27 : decode cX8_addRoot 27 = .ok (.iconst 1, 1) := by decide +kernel
theorem dX8_addRoot_28 : decode cX8_addRoot 28 = .ok (.iload_n 3, 1) := by decide +kernel
theorem dX8_addRoot_29 : decode cX8_addRoot 29 = .ok (.invokevirtual 63, 3) := by decide +kernel
theorem dX8_addRoot_32 : decode cX8_addRoot 32 = .ok (.iload 4, 2) := by decide +kernel
theorem dX8_addRoot_34 : decode cX8_addRoot 34 = .ok (.ireturn, 1) := by decide +kernel
theorem dX8_copyWithElement_0 : decode cX8_copyWithElement 0 = .ok (.iload_n 2, 1) := by decide +kernel
theorem dX8_copyWithElement_1 : decode cX8_copyWithElement 1 = .ok (.iload_n 3, 1) := by decide +kernel
theorem dX8_copyWithElement_2 : decode cX8_copyWithElement 2 = .ok (.invokestatic 52, 3) := by decide +kernel
theorem dX8_copyWithElement_5 : decode cX8_copyWithElement 5 = .ok (.istore 5, 2) := by decide +kernel
theorem dX8_copyWithElement_7 : decode cX8_copyWithElement 7 = .ok (.iload 4, 2) := by decide +kernel
theorem dX8_copyWithElement_9 : decode cX8_copyWithElement 9 = .ok (.istore 6, 2) := by decide +kernel
theorem dX8_copyWithElement_11 : decode cX8_copyWithElement 11 = .ok (.iload_n 2, 1) := by decide +kernel
theorem dX8_copyWithElement_12 : decode cX8_copyWithElement 12 = .ok (.iconst 1, 1) := by decide +kernel
theorem dX8_copyWithElement_13 : decode cX8_copyWithElement 13 = .ok (.if_icmp .le 25, 3) := by decide +kernel
theorem dX8_copyWithElement_16 : decode cX8_copyWithElement 16 = .ok (.aload_n 0, 1) := by decide +kernel
theorem dX8_copyWithElement_17 : decode cX8_copyWithElement 17 = .ok (.aload_n 0, 1) := by decide +kernel
theorem dX8_copyWithElement_18 : decode cX8_copyWithElement 18 = .ok (.getfield 12, 3) := by decide +kernel
theorem dX8_copyWithElement_21 : decode cX8_copyWithElement 21 = .ok (.iload_n 1, 1) := by decide +kernel
theorem dX8_copyWithElement_22 : decode cX8_copyWithElement 22 = .ok (.iload 5, 2) := by decide +kernel
theorem dX8_copyWithElement_24 : decode cX8_copyWithElement 24 = .ok (.invokevirtual 101, 3) := by decide +kernel
theorem dX8_copyWithElement_27 : decode cX8_copyWithElement 27 = .ok (.iload_n 2, 1) := by decide +kernel
theorem dX8_copyWithElement_28 : decode cX8_copyWithElement 28 = .ok (.iconst 1, 1) := by decide +kernel
theorem dX8_copyWithElement_29 : decode cX8_copyWithElement 29 = .ok (.isub, 1) := by decide +kernel
theorem dX8_copyWithElement_30 : decode cX8_copyWithElement 30 = .ok (.iload_n 3, 1) := by decide +kernel
theorem dX8_copyWithElement_31 : decode cX8_copyWithElement 31 = .ok (.iload 4, 2) := by decide +kernel
theorem dX8_copyWithElement_33 : decode cX8_copyWithElement 33 = .ok (.invokevirtual 84, 3) := by decide +kernel
theorem dX8_copyWithElement_36 : decode cX8_copyWithElement 36 = .ok (.istore 6, 2) := by decide +kernel
theorem dX8_copyWithElement_38 : decode cX8_copyWithElement 38 = .ok (.aload_n 0, 1) := by decide +kernel
theorem dX8_copyWithElement_39 : decode cX8_copyWithElement 39 = .ok (.getfield 12, 3) := by decide +kernel
theorem dX8_copyWithElement_42 : decode cX8_copyWithElement 42 = .ok (.iload_n 1, 1) := by decide +kernel
theorem dX8_copyWithElement_43 : decode cX8_copyWithElement 43 = .ok (.iload_n 2, 1) := by decide +kernel
theorem dX8_copyWithElement_44 : decode cX8_copyWithElement 44 = .ok (.aload_n 0, 1) := by decide +kernel
theorem dX8_copyWithElement_45 : decode cX8_copyWithElement 45 = .ok (.getfield 12, 3) := by decide +kernel
theorem dX8_copyWithElement_48 : decode cX8_copyWithElement 48 = .ok (.iload_n 1, 1) := by decide +kernel
theorem dX8_copyWithElement_49 : decode cX8_copyWithElement 49 = .ok (.invokevirtual 104, 3) := by decide +kernel
theorem dX8_copyWithElement_52 : decode cX8_copyWithElement 52 = .ok (.iload 5, 2) := by decide +kernel
theorem dX8_copyWithElement_54 : decode cX8_copyWithElement 54 = .ok (.iload 6, 2) := by decide +kernel
theorem dX8_copyWithElement_56 : decode cX8_copyWithElement 56 = .ok (.invokevirtual 107, 3) := by decide +kernel
theorem dX8_copyWithElement_59 : decode cX8_copyWithElement 59 = .ok (.ireturn, 1) := by decide +kernel
theorem dX8_copyWithFirst_0 : decode cX8_copyWithFirst 0 = .ok (.aload_n 0, 1) := by decide +kernel
theorem dX8_copyWithFirst_1 : decode cX8_copyWithFirst 1 = .ok (.iload_n 1, 1) := by decide +kernel
theorem dX8_copyWithFirst_2 : decode cX8_copyWithFirst 2 = .ok (.iload_n 2, 1) := by decide +kernel
theorem dX8_copyWithFirst_3 : decode cX8_copyWithFirst 3 = .ok (.invokevirtual 111, 3) := by decide +kernel
theorem dX8_copyWithFirst_6 : decode cX8_copyWithFirst 6 = .ok (.iload_n 3, 1) := by decide +kernel
theorem dX8_copyWithFirst_7 : decode cX8_copyWithFirst 7 = .ok (.if_icmp .ne 5, 3) := by decide +kernel
theorem dX8_copyWithFirst_10 : decode cX8_copyWithFirst 10 = .ok (.iload_n 1, 1) := by decide +kernel
theorem dX8_copyWithFirst_11 : decode cX8_copyWithFirst 11 = .ok (.ireturn, 1) := by decide +kernel
theorem dX8_copyWithFirst_12 : decode cX8_copyWithFirst 12 = .ok (.iload_n 2, 1) := by decide +kernel
theorem dX8_copyWithFirst_13 : decode cX8_copyWithFirst 13 = .ok (.iload_n 3, 1) := by decide +kernel
theorem dX8_copyWithFirst_14 : decode cX8_copyWithFirst 14 = .ok (.iconst 1, 1) := by decide +kernel
theorem dX8_copyWithFirst_15 : decode cX8_copyWithFirst 15 = .ok (.isub, 1) := by decide +kernel
theorem dX8_copyWithFirst_16 : decode cX8_copyWithFirst 16 = .ok (.invokestatic 52, 3) := by decide +kernel
theorem dX8_copyWithFirst_19 : decode cX8_copyWithFirst 19 = .ok (.istore 4, 2) := by decide +kernel
theorem dX8_copyWithFirst_21 : decode cX8_copyWithFirst 21 = .ok (.aload_n 0, 1) := by decide +kernel
theorem dX8_copyWithFirst_22 : decode cX8_copyWithFirst 22 = .ok (.getfield 12, 3) := by decide +kernel
theorem dX8_copyWithFirst_25 : decode cX8_copyWithFirst 25 = .ok (.iload_n 1, 1) := by decide +kernel
theorem dX8_copyWithFirst_26 : decode cX8_copyWithFirst 26 = .ok (.iload 4, 2) := by decide +kernel
theorem dX8_copyWithFirst_28 : decode cX8_copyWithFirst 28 = .ok (.invokevirtual 75, 3) := by decide +kernel
theorem dX8_copyWithFirst_31 : decode cX8_copyWithFirst 31 = .ok (.istore 5, 2) := by decide +kernel
theorem dX8_copyWithFirst_33 : decode cX8_copyWithFirst 33 = .ok (.iload_n 2, 1) := by decide +kernel
theorem dX8_copyWithFirst_34 : decode cX8_copyWithFirst 34 = .ok (.iconst 1, 1) := by decide +kernel
theorem dX8_copyWithFirst_35 : decode cX8_copyWithFirst 35 = .ok (.if_icmp .le 25, 3) := by decide +kernel
theorem dX8_copyWithFirst_38 : decode cX8_copyWithFirst 38 = .ok (.aload_n 0, 1) := by decide +kernel
theorem dX8_copyWithFirst_39 : decode cX8_copyWithFirst 39 = .ok (.iload 5, 2) := by decide +kernel
theorem dX8_copyWithFirst_41 : decode cX8_copyWithFirst 41 = .ok (.iload_n 2, 1) := by decide +kernel
theorem dX8_copyWithFirst_42 : decode cX8_copyWithFirst 42 = .ok (.iconst 1, 1) := by decide +kernel
theorem dX8_copyWithFirst_43 : decode cX8_copyWithFirst 43 = .ok (.isub, 1) := by decide +kernel
theorem dX8_copyWithFirst_44 : decode cX8_copyWithFirst 44 = .ok (.iload_n 3, 1) := by decide +kernel
theorem dX8_copyWithFirst_45 : decode cX8_copyWithFirst 45 = .ok (.iload 4, 2) := by decide +kernel
theorem dX8_copyWithFirst_47 : decode cX8_copyWithFirst 47 = .ok (.iload_n 2, 1) := by decide +kernel
theorem dX8_copyWithFirst_48 : decode cX8_copyWithFirst 48 = .ok (.iconst 1, 1) := by decide +kernel
theorem dX8_copyWithFirst_49 : decode cX8_copyWithFirst 49 = .ok (.isub, 1) := by decide +kernel
theorem dX8_copyWithFirst_50 : decode cX8_copyWithFirst 50 = .ok (.invokestatic 114, 3) := by decide +kernel
theorem dX8_copyWithFirst_53 : decode cX8_copyWithFirst 53 = .ok (.imul, 1) := by decide +kernel
theorem dX8_copyWithFirst_54 : decode cX8_copyWithFirst 54 = .ok (.isub, 1) := by decide +kernel
theorem dX8_copyWithFirst_55 : decode cX8_copyWithFirst 55 = .ok (.invokevirtual 98, 3) := by decide +kernel
theorem dX8_copyWithFirst_58 : decode cX8_copyWithFirst 58 = .ok (.istore 5, 2) := by decide +kernel
theorem dX8_copyWithFirst_60 : decode cX8_copyWithFirst 60 = .ok (.aload_n 0, 1) := by decide +kernel
theorem dX8_copyWithFirst_61 : decode cX8_copyWithFirst 61 = .ok (.getfield 12, 3) := by decide +kernel
theorem dX8_copyWithFirst_64 : decode cX8_copyWithFirst 64 = .ok (.iload_n 1, 1) := by decide +kernel
theorem dX8_copyWithFirst_65 : decode cX8_copyWithFirst 65 = .ok (.iload_n 2, 1) := by decide +kernel
theorem dX8_copyWithFirst_66 : decode cX8_copyWithFirst 66 = .ok (.iload 4, 2) := by decide +kernel
theorem dX8_copyWithFirst_68 : decode cX8_copyWithFirst 68 = .ok (.iload 4, 2) := by decide +kernel
theorem dX8_copyWithFirst_70 : decode cX8_copyWithFirst 70 = .ok (.iload 5, 2) := by decide +kernel
theorem dX8_copyWithFirst_72 : decode cX8_copyWithFirst 72 = .ok (.invokevirtual 107, 3) := by decide +kernel
theorem dX8_copyWithFirst_75 : decode cX8_copyWithFirst 75 = .ok (.ireturn, 1) := by decide +kernel
theorem dX8_firstNodeAt_0 : decode cX8_firstNodeAt 0 = .ok (.aload_n 0, 1) := by decide +kernel
theorem dX8_firstNodeAt_1 : decode cX8_firstNodeAt 1 = .ok (.getfield 21, 3) := by decide +kernel
theorem dX8_firstNodeAt_4 : decode cX8_firstNodeAt 4 = .ok (.iload_n 1, 1) := by decide +kernel
theorem dX8_firstNodeAt_5 : decode cX8_firstNodeAt 5 = .ok (.invokevirtual 69, 3) := by decide +kernel
theorem dX8_firstNodeAt_8 : decode cX8_firstNodeAt 8 = .ok (.istore_n 3, 1) := by decide +kernel
theorem dX8_firstNodeAt_9 : decode cX8_firstNodeAt 9 = .ok (.aload_n 0, 1) := by decide +kernel
theorem dX8_firstNodeAt_10 : decode cX8_firstNodeAt 10 = .ok (.iload_n 1, 1) := by decide +kernel
theorem dX8_firstNodeAt_11 : decode cX8_firstNodeAt 11 = .ok (.invokevirtual 72, 3) := by decide +kernel
theorem dX8_firstNodeAt_14 : decode cX8_firstNodeAt 14 = .ok (.istore 4, 2) := by decide +kernel
theorem dX8_firstNodeAt_16 : decode cX8_firstNodeAt 16 = .ok (.iload 4, 2) := by decide +kernel
theorem dX8_firstNodeAt_18 : decode cX8_firstNodeAt 18 = .ok (.iload_n 2, 1) := by decide +kernel
theorem dX8_firstNodeAt_19 : decode cX8_firstNodeAt 19 = .ok (.if_icmp .le 19, 3) := by decide +kernel
theorem dX8_firstNodeAt_22 : decode cX8_firstNodeAt 22 = .ok (.aload_n 0, 1) := by decide +kernel
theorem dX8_firstNodeAt_23 : decode cX8_firstNodeAt 23 = .ok (.getfield 12, 3) := by decide +kernel
theorem dX8_firstNodeAt_26 : decode cX8_firstNodeAt 26 = .ok (.iload_n 3, 1) := by decide +kernel
theorem dX8_firstNodeAt_27 : decode cX8_firstNodeAt 27 = .ok (.iconst 0, 1) := by decide +kernel
theorem dX8_firstNodeAt_28 : decode cX8_firstNodeAt 28 = .ok (.invokevirtual 75, 3) := by decide +kernel
theorem dX8_firstNodeAt_31 : decode cX8_firstNodeAt 31 = .ok (.istore_n 3, 1) := by decide +kernel
theorem dX8_firstNodeAt_32 : decode cX8_firstNodeAt 32 = .ok (.iinc 4 (-1), 3) := by decide +kernel
theorem dX8_firstNodeAt_35 : decode cX8_firstNodeAt 35 = .ok (.goto (-19), 3) := by decide +kernel
theorem dX8_firstNodeAt_38 : decode cX8_firstNodeAt 38 = .ok (.iload_n 3, 1) := by decide +kernel
theorem dX8_firstNodeAt_39 : decode cX8_firstNodeAt 39 = .ok (.ireturn, 1) := by decide +kernel
theorem dX8_countElements_0 : decode cX8_countElements 0 = .ok (.iload_n 1, 1) := by decide +kernel
theorem dX8_countElements_1 : decode cX8_countElements 1 = .ok (.istore_n 3, 1) := by decide +kernel
theorem dX8_countElements_2 : decode cX8_countElements 2 = .ok (.iconst 0, 1) := by decide +kernel
theorem dX8_countElements_3 : decode cX8_countElements 3 = .ok (.istore 4, 2) := by decide +kernel
theorem dX8_countElements_5 : decode cX8_countElements 5 = .ok (.iload_n 2, 1) := by decide +kernel
theorem dX8_countElements_6 : decode cX8_countElements 6 = .ok (.istore 5, 2) := by decide +kernel
theorem dX8_countElements_8 : decode cX8_countElements 8 = .ok (.iload 5, 2) := by decide +kernel
theorem dX8_countElements_10 : decode cX8_countElements 10 = .ok (.iconst 1, 1) := by decide +kernel
theorem dX8_countElements_11 : decode cX8_countElements 11 = .ok (.if_icmp .le 47, 3) := by decide +kernel
theorem dX8_countElements_14 : decode cX8_countElements 14 = .ok (.aload_n 0, 1) := by decide +kernel
theorem dX8_countElements_15 : decode cX8_countElements 15 = .ok (.getfield 12, 3) := by decide +kernel
theorem dX8_countElements_18 : decode cX8_countElements 18 = .ok (.iload_n 3, 1) := by decide +kernel
theorem dX8_countElements_19 : decode cX8_countElements 19 = .ok (.invokevirtual 104, 3) := by decide +kernel
theorem dX8_countElements_22 : decode cX8_countElements 22 = .ok (.iconst 1, 1) := by decide +kernel
theorem dX8_countElements_23 : decode cX8_countElements 23 = .ok (.isub, 1) := by decide +kernel
theorem dX8_countElements_24 : decode cX8_countElements 24 = .ok (.istore 6, 2) := by decide +kernel
theorem dX8_countElements_26 : decode cX8_countElements 26 = .ok (.iload 4, 2) := by decide +kernel
theorem dX8_countElements_28 : decode cX8_countElements 28 = .ok (.iload 6, 2) := by decide +kernel
theorem dX8_countElements_30 : decode cX8_countElements 30 = .ok (.iload 5, 2) := by decide +kernel
theorem dX8_countElements_32 : decode cX8_countElements 32 = .ok (.iconst 1, 1) := by decide +kernel
theorem dX8_countElements_33 : decode cX8_countElements 33 = .ok (.isub, 1) := by decide +kernel
theorem dX8_countElements_34 : decode cX8_countElements 34 = .ok (.invokestatic 114, 3) := by decide +kernel
theorem dX8_countElements_37 : decode cX8_countElements 37 = .ok (.imul, 1) := by decide +kernel
theorem dX8_countElements_38 : decode cX8_countElements 38 = .ok (.iadd, 1) := by decide +kernel
theorem dX8_countElements_39 : decode cX8_countElements 39 = .ok (.istore 4, 2) := by decide +kernel
theorem dX8_countElements_41 : decode cX8_countElements 41 = .ok (.aload_n 0, 1) := by decide +kernel
theorem dX8_countElements_42 : decode cX8_countElements 42 = .ok (.getfield 12, 3) := by decide +kernel
theorem dX8_countElements_45 : decode cX8_countElements 45 = .ok (.iload_n 3, 1) := by decide +kernel
theorem dX8_countElements_46 : decode cX8_countElements 46 = .ok (.iload 6, 2) := by decide +kernel
theorem dX8_countElements_48 : decode cX8_countElements 48 = .ok (.invokevirtual 75, 3) := by decide +kernel
theorem dX8_countElements_51 : decode cX8_countElements 51 = .ok (.istore_n 3, 1) := by decide +kernel
theorem dX8_countElements_52 : decode cX8_countElements 52 = .ok (.iinc 5 (-1), 3) := by decide +kernel
theorem dX8_countElements_55 : decode cX8_countElements 55 = .ok (.goto (-47), 3) := by decide +kernel
theorem dX8_countElements_58 : decode cX8_countElements 58 = .ok (.iload 4, 2) := by decide +kernel
theorem dX8_countElements_60 : decode cX8_countElements 60 = .ok (.aload_n 0, 1) := by decide +kernel
theorem dX8_countElements_61 : decode cX8_countElements 61 = .ok (.getfield 12, 3) := by decide +kernel
theorem dX8_countElements_64 : decode cX8_countElements 64 = .ok (.iload_n 3, 1) := by decide +kernel
theorem dX8_countElements_65 : decode cX8_countElements 65 = .ok (.invokevirtual 104, 3) := by decide +kernel
theorem dX8_countElements_68 : decode cX8_countElements 68 = .ok (.iadd, 1) := by decide +kernel
theorem dX8_countElements_69 : decode cX8_countElements 69 = .ok (.ireturn, 1) := by decide +kernel
theorem dX9_init_0 : decode cX9_init 0 = .ok (.aload_n 0, 1) := by decide +kernel
theorem dX9_init_1 : decode cX9_init 1 = .ok (.invokespecial 3, 3) := by decide +kernel
theorem dX9_init_4 : decode cX9_init 4 = .ok (.aload_n 0, 1) := by decide +kernel
theorem dX9_init_5 : decode cX9_init 5 = .ok (.iconst 0, 1) := by decide +kernel
theorem dX9_init_6 : decode cX9_init 6 = .ok (.putfield 9, 3) := by decide +kernel
theorem dX9_init_9 : decode cX9_init 9 = .ok (.aload_n 0, 1) := by decide +kernel
theorem dX9_init_10 : decode cX9_init 10 = .ok (.iconst (-1), 1) := by decide +kernel
theorem dX9_init_11 : decode cX9_init 11 = .ok (.putfield 15, 3) := by decide +kernel
theorem dX9_init_14 : decode cX9_init 14 = .ok (.aload_n 0, 1) := by decide +kernel
theorem dX9_init_15 : decode cX9_init 15 = .ok (.aload_n 1, 1) := by decide +kernel
theorem dX9_init_16 : decode cX9_init 16 = .ok (.putfield 18, 3) := by decide +kernel
theorem dX9_init_19 : decode cX9_init 19 = .ok (.return_, 1) := by decide +kernel
theorem dX9_begin_0 : decode cX9_begin 0 = .ok (.aload_n 0, 1) := by decide +kernel
theorem dX9_begin_1 : decode cX9_begin 1 = .ok (.iconst 0, 1) := by decide +kernel
theorem dX9_begin_2 : decode cX9_begin 2 = .ok (.putfield 9, 3) := by decide +kernel
theorem dX9_begin_5 : decode cX9_begin 5 = .ok (.aload_n 0, 1) := by decide +kernel
theorem dX9_begin_6 : decode cX9_begin 6 = .ok (.iconst (-1), 1) := by decide +kernel
theorem dX9_begin_7 : decode cX9_begin 7 = .ok (.putfield 15, 3) := by decide +kernel
theorem dX9_begin_10 : decode cX9_begin 10 = .ok (.aload_n 0, 1) := by decide +kernel
theorem dX9_begin_11 : decode cX9_begin 11 = .ok (.iconst 0, 1) := by decide +kernel
theorem dX9_begin_12 : decode cX9_begin 12 = .ok (.putfield 22, 3) := by decide +kernel
theorem dX9_begin_15 : decode cX9_begin 15 = .ok (.return_, 1) := by decide +kernel
theorem dX9_fail_0 : decode cX9_fail 0 = .ok (.aload_n 0, 1) := by decide +kernel
theorem dX9_fail_1 : decode cX9_fail 1 = .ok (.iload_n 1, 1) := by decide +kernel
theorem dX9_fail_2 : decode cX9_fail 2 = .ok (.putfield 9, 3) := by decide +kernel
theorem dX9_fail_5 : decode cX9_fail 5 = .ok (.aload_n 0, 1) := by decide +kernel
theorem dX9_fail_6 : decode cX9_fail 6 = .ok (.aload_n 0, 1) := by decide +kernel
theorem dX9_fail_7 : decode cX9_fail 7 = .ok (.getfield 25, 3) := by decide +kernel
theorem dX9_fail_10 : decode cX9_fail 10 = .ok (.putfield 15, 3) := by decide +kernel
theorem dX9_fail_13 : decode cX9_fail 13 = .ok (.iconst 0, 1) := by decide +kernel
theorem dX9_fail_14 : decode cX9_fail 14 = .ok (.ireturn, 1) := by decide +kernel
theorem dX9_advance_0 : decode cX9_advance 0 = .ok (.aload_n 0, 1) := by decide +kernel
theorem dX9_advance_1 : decode cX9_advance 1 = .ok (.getfield 22, 3) := by decide +kernel
theorem dX9_advance_4 : decode cX9_advance 4 = .ok (.aload_n 0, 1) := by decide +kernel
theorem dX9_advance_5 : decode cX9_advance 5 = .ok (.getfield 18, 3) := by decide +kernel
theorem dX9_advance_8 : decode cX9_advance 8 = .ok (.getfield 28, 3) := by decide +kernel
theorem dX9_advance_11 : decode cX9_advance 11 = .ok (.if_icmp .ge 33, 3) := by decide +kernel
theorem dX9_advance_14 : decode cX9_advance 14 = .ok (.aload_n 0, 1) := by decide +kernel
theorem dX9_advance_15 : decode cX9_advance 15 = .ok (.getfield 18, 3) := by decide +kernel
theorem dX9_advance_18 : decode cX9_advance 18 = .ok (.aload_n 0, 1) := by decide +kernel
theorem dX9_advance_19 : decode cX9_advance 19 = .ok (.getfield 22, 3) := by decide +kernel
theorem dX9_advance_22 : decode cX9_advance 22 = .ok (.invokevirtual 33, 3) := by decide +kernel
theorem dX9_advance_25 : decode cX9_advance 25 = .ok (.invokestatic 37, 3) := by decide +kernel
theorem dX9_advance_28 : decode cX9_advance 28 = .ok (.ifCond .eq 16, 3) := by decide +kernel
theorem dX9_advance_31 : decode cX9_advance 31 = .ok (.aload_n 0, 1) := by decide +kernel
theorem dX9_advance_32 : decode cX9_advance 32 = .ok (.dup, 1) := by decide +kernel
theorem dX9_advance_33 : decode cX9_advance 33 = .ok (.getfield 22, 3) := by decide +kernel
theorem dX9_advance_36 : decode cX9_advance 36 = .ok (.iconst 1, 1) := by decide +kernel
theorem dX9_advance_37 : decode cX9_advance 37 = .ok (.iadd, 1) := by decide +kernel
theorem dX9_advance_38 : decode cX9_advance 38 = .ok (.putfield 22, 3) := by decide +kernel
theorem dX9_advance_41 : decode cX9_advance 41 = .ok (.goto (-41), 3) := by decide +kernel
theorem dX9_advance_44 : decode cX9_advance 44 = .ok (.aload_n 0, 1) := by decide +kernel
theorem dX9_advance_45 : decode cX9_advance 45 = .ok (.aload_n 0, 1) := by decide +kernel
theorem dX9_advance_46 : decode cX9_advance 46 = .ok (.getfield 22, 3) := by decide +kernel
theorem dX9_advance_49 : decode cX9_advance 49 = .ok (.putfield 25, 3) := by decide +kernel
theorem dX9_advance_52 : decode cX9_advance 52 = .ok (.aload_n 0, 1) := by decide +kernel
theorem dX9_advance_53 : decode cX9_advance 53 = .ok (.iconst 0, 1) := by decide +kernel
theorem dX9_advance_54 : decode cX9_advance 54 = .ok (.putfield 41, 3) := by decide +kernel
theorem dX9_advance_57 : decode cX9_advance 57 = .ok (.aload_n 0, 1) := by decide +kernel
theorem dX9_advance_58 : decode cX9_advance 58 = .ok (.getfield 18, 3) := by decide +kernel
theorem dX9_advance_61 : decode cX9_advance 61 = .ok (.aload_n 0, 1) := by decide +kernel
theorem dX9_advance_62 : decode cX9_advance 62 = .ok (.getfield 22, 3) := by decide +kernel
theorem dX9_advance_65 : decode cX9_advance 65 = .ok (.invokevirtual 33, 3) := by decide +kernel
theorem dX9_advance_68 : decode cX9_advance 68 = .ok (.istore_n 1, 1) := by decide +kernel
theorem dX9_advance_69 : decode cX9_advance 69 = .ok (.iload_n 1, 1) := by decide +kernel
theorem dX9_advance_70 : decode cX9_advance 70 = .ok (.invokestatic 44, 3) := by decide +kernel
theorem dX9_advance_73 : decode cX9_advance 73 = .ok (.ifCond .eq 10, 3) := by decide +kernel
theorem dX9_advance_76 : decode cX9_advance 76 = .ok (.aload_n 0, 1) := by decide +kernel
theorem dX9_advance_77 : decode cX9_advance 77 = .ok (.invokevirtual 47, 3) := by decide +kernel
theorem dX9_advance_80 : decode cX9_advance 80 = .ok (.goto 42, 3) := by decide +kernel
theorem dX9_advance_83 : decode cX9_advance 83 = .ok (.iload_n 1, 1) := by decide +kernel
theorem dX9_advance_84 : decode cX9_advance 84 = .ok (.invokestatic 50, 3) := by decide +kernel
theorem dX9_advance_87 : decode cX9_advance 87 = .ok (.ifCond .eq 10, 3) := by decide +kernel
theorem dX9_advance_90 : decode cX9_advance 90 = .ok (.aload_n 0, 1) := by decide +kernel
theorem dX9_advance_91 : decode cX9_advance 91 = .ok (.invokevirtual 53, 3) := by decide +kernel
theorem dX9_advance_94 : decode cX9_advance 94 = .ok (.goto 28, 3) := by decide +kernel
theorem dX9_advance_97 : decode cX9_advance 97 = .ok (.aload_n 0, 1) := by decide +kernel
theorem dX9_advance_98 : decode cX9_advance 98 = .ok (.iload_n 1, 1) := by decide +kernel
theorem dX9_advance_99 : decode cX9_advance 99 = .ok (.bipush 59, 2) := by decide +kernel
theorem dX9_advance_101 : decode cX9_advance 101 = .ok (.if_icmp .ne 7, 3) := by decide +kernel
theorem dX9_advance_104 : decode cX9_advance 104 = .ok (.iconst 3, 1) := by decide +kernel
theorem dX9_advance_105 : decode cX9_advance 105 = .ok (.goto 4, 3) := by decide +kernel
theorem dX9_advance_108 : decode cX9_advance 108 = .ok (.iconst 0, 1) := by decide +kernel
theorem dX9_advance_109 : decode cX9_advance 109 = .ok (.putfield 56, 3) := by decide +kernel
theorem dX9_advance_112 : decode cX9_advance 112 = .ok (.aload_n 0, 1) := by decide +kernel
theorem dX9_advance_113 : decode cX9_advance 113 = .ok (.dup, 1) := by decide +kernel
theorem dX9_advance_114 : decode cX9_advance 114 = .ok (.getfield 22, 3) := by decide +kernel
theorem dX9_advance_117 : decode cX9_advance 117 = .ok (.iconst 1, 1) := by decide +kernel
theorem dX9_advance_118 : decode cX9_advance 118 = .ok (.iadd, 1) := by decide +kernel
theorem dX9_advance_119 : decode cX9_advance 119 = .ok (.putfield 22, 3) := by decide +kernel
theorem dX9_advance_122 : decode cX9_advance 122 = .ok (.iload_n 1, 1) := by decide +kernel
theorem dX9_advance_123 : decode cX9_advance 123 = .ok (.iconst (-1), 1) := by decide +kernel
theorem dX9_advance_124 : decode cX9_advance 124 = .ok (.if_icmp .eq 7, 3) := by decide +kernel
theorem dX9_advance_127 : decode cX9_advance 127 = .ok (.iconst 1, 1) := by decide +kernel
theorem dX9_advance_128 : decode cX9_advance 128 = .ok (.goto 4, 3) := by decide +kernel
theorem dX9_advance_131 : decode cX9_advance 131 = .ok (.iconst 0, 1) := by decide +kernel
theorem dX9_advance_132 : decode cX9_advance 132 = .ok (.ireturn, 1) := by decide +kernel
theorem dX9_readWord_0 : decode cX9_readWord 0 = .ok (.aload_n 0, 1) := by decide +kernel
theorem dX9_readWord_1 : decode cX9_readWord 1 = .ok (.getfield 22, 3) := by decide +kernel
theorem dX9_readWord_4 : decode cX9_readWord 4 = .ok (.aload_n 0, 1) := by decide +kernel
theorem dX9_readWord_5 : decode cX9_readWord 5 = .ok (.getfield 18, 3) := by decide +kernel
theorem dX9_readWord_8 : decode cX9_readWord 8 = .ok (.getfield 28, 3) := by decide +kernel
theorem dX9_readWord_11 : decode cX9_readWord 11 = .ok (.if_icmp .ge 33, 3) := by decide +kernel
theorem dX9_readWord_14 : decode cX9_readWord 14 = .ok (.aload_n 0, 1) := by decide +kernel
theorem dX9_readWord_15 : decode cX9_readWord 15 = .ok (.getfield 18, 3) := by decide +kernel
theorem dX9_readWord_18 : decode cX9_readWord 18 = .ok (.aload_n 0, 1) := by decide +kernel
theorem dX9_readWord_19 : decode cX9_readWord 19 = .ok (.getfield 22, 3) := by decide +kernel
theorem dX9_readWord_22 : decode cX9_readWord 22 = .ok (.invokevirtual 33, 3) := by decide +kernel
theorem dX9_readWord_25 : decode cX9_readWord 25 = .ok (.invokestatic 44, 3) := by decide +kernel
theorem dX9_readWord_28 : decode cX9_readWord 28 = .ok (.ifCond .eq 16, 3) := by decide +kernel
theorem dX9_readWord_31 : decode cX9_readWord 31 = .ok (.aload_n 0, 1) := by decide +kernel
theorem dX9_readWord_32 : decode cX9_readWord 32 = .ok (.dup, 1) := by decide +kernel
theorem dX9_readWord_33 : decode cX9_readWord 33 = .ok (.getfield 22, 3) := by decide +kernel
theorem dX9_readWord_36 : decode cX9_readWord 36 = .ok (.iconst 1, 1) := by decide +kernel
theorem dX9_readWord_37 : decode cX9_readWord 37 = .ok (.iadd, 1) := by decide +kernel
theorem dX9_readWord_38 : decode cX9_readWord 38 = .ok (.putfield 22, 3) := by decide +kernel
theorem dX9_readWord_41 : decode cX9_readWord 41 = .ok (.goto (-41), 3) := by decide +kernel
theorem dX9_readWord_44 : decode cX9_readWord 44 = .ok (.aload_n 0, 1) := by decide +kernel
theorem dX9_readWord_45 : decode cX9_readWord 45 = .ok (.iconst 1, 1) := by decide +kernel
theorem dX9_readWord_46 : decode cX9_readWord 46 = .ok (.putfield 56, 3) := by decide +kernel
theorem dX9_readWord_49 : decode cX9_readWord 49 = .ok (.aload_n 0, 1) := by decide +kernel
theorem dX9_readWord_50 : decode cX9_readWord 50 = .ok (.aload_n 0, 1) := by decide +kernel
theorem dX9_readWord_51 : decode cX9_readWord 51 = .ok (.invokevirtual 59, 3) := by decide +kernel
theorem dX9_readWord_54 : decode cX9_readWord 54 = .ok (.putfield 41, 3) := by decide +kernel
theorem dX9_readWord_57 : decode cX9_readWord 57 = .ok (.return_, 1) := by decide +kernel
theorem dX9_readNumber_0 : decode cX9_readNumber 0 = .ok (.aload_n 0, 1) := by decide +kernel
theorem dX9_readNumber_1 : decode cX9_readNumber 1 = .ok (.iconst 0, 1) := by decide +kernel
theorem dX9_readNumber_2 : decode cX9_readNumber 2 = .ok (.putfield 63, 3) := by decide +kernel
theorem dX9_readNumber_5 : decode cX9_readNumber 5 = .ok (.aload_n 0, 1) := by decide +kernel
theorem dX9_readNumber_6 : decode cX9_readNumber 6 = .ok (.getfield 22, 3) := by decide +kernel
theorem dX9_readNumber_9 : decode cX9_readNumber 9 = .ok (.aload_n 0, 1) := by decide +kernel
theorem dX9_readNumber_10 : decode cX9_readNumber 10 = .ok (.getfield 18, 3) := by decide +kernel
theorem dX9_readNumber_13 : decode cX9_readNumber 13 = .ok (.getfield 28, 3) := by decide +kernel
theorem dX9_readNumber_16 : decode cX9_readNumber 16 = .ok (.if_icmp .ge 59, 3) := by decide +kernel
theorem dX9_readNumber_19 : decode cX9_readNumber 19 = .ok (.aload_n 0, 1) := by decide +kernel
theorem dX9_readNumber_20 : decode cX9_readNumber 20 = .ok (.getfield 18, 3) := by decide +kernel
theorem dX9_readNumber_23 : decode cX9_readNumber 23 = .ok (.aload_n 0, 1) := by decide +kernel
theorem dX9_readNumber_24 : decode cX9_readNumber 24 = .ok (.getfield 22, 3) := by decide +kernel
theorem dX9_readNumber_27 : decode cX9_readNumber 27 = .ok (.invokevirtual 33, 3) := by decide +kernel
theorem dX9_readNumber_30 : decode cX9_readNumber 30 = .ok (.invokestatic 50, 3) := by decide +kernel
theorem dX9_readNumber_33 : decode cX9_readNumber 33 = .ok (.ifCond .eq 42, 3) := by decide +kernel
theorem dX9_readNumber_36 : decode cX9_readNumber 36 = .ok (.aload_n 0, 1) := by decide +kernel
theorem dX9_readNumber_37 : decode cX9_readNumber 37 = .ok (.aload_n 0, 1) := by decide +kernel
theorem dX9_readNumber_38 : decode cX9_readNumber 38 = .ok (.getfield 63, 3) := by decide +kernel
theorem dX9_readNumber_41 : decode cX9_readNumber 41 = .ok (.bipush 10, 2) := by decide +kernel
theorem dX9_readNumber_43 : decode cX9_readNumber 43 = .ok (.imul, 1) := by decide +kernel
theorem dX9_readNumber_44 : decode cX9_readNumber 44 = .ok (.aload_n 0, 1) := by decide +kernel
theorem dX9_readNumber_45 : decode cX9_readNumber 45 = .ok (.getfield 18, 3) := by decide +kernel
theorem dX9_readNumber_48 : decode cX9_readNumber 48 = .ok (.aload_n 0, 1) := by decide +kernel
theorem dX9_readNumber_49 : decode cX9_readNumber 49 = .ok (.getfield 22, 3) := by decide +kernel
theorem dX9_readNumber_52 : decode cX9_readNumber 52 = .ok (.invokevirtual 33, 3) := by decide +kernel
theorem dX9_readNumber_55 : decode cX9_readNumber 55 = .ok (.iadd, 1) := by decide +kernel
theorem dX9_readNumber_56 : decode cX9_readNumber 56 = .ok (.bipush 48, 2) := by decide +kernel
theorem dX9_readNumber_58 : decode cX9_readNumber 58 = .ok (.isub, 1) := by decide +kernel
theorem dX9_readNumber_59 : decode cX9_readNumber 59 = .ok (.putfield 63, 3) := by decide +kernel
theorem dX9_readNumber_62 : decode cX9_readNumber 62 = .ok (.aload_n 0, 1) := by decide +kernel
theorem dX9_readNumber_63 : decode cX9_readNumber 63 = .ok (.dup, 1) := by decide +kernel
theorem dX9_readNumber_64 : decode cX9_readNumber 64 = .ok (.getfield 22, 3) := by decide +kernel
theorem dX9_readNumber_67 : decode cX9_readNumber 67 = .ok (.iconst 1, 1) := by decide +kernel
theorem dX9_readNumber_68 : decode cX9_readNumber 68 = .ok (.iadd, 1) := by decide +kernel
theorem dX9_readNumber_69 : decode cX9_readNumber 69 = .ok (.putfield 22, 3) := by decide +kernel
theorem dX9_readNumber_72 : decode cX9_readNumber 72 = .ok (.goto (-67), 3) := by decide +kernel
theorem dX9_readNumber_75 : decode cX9_readNumber 75 = .ok (.aload_n 0, 1) := by decide +kernel
theorem dX9_readNumber_76 : decode cX9_readNumber 76 = .ok (.aload_n 0, 1) := by decide +kernel
theorem dX9_readNumber_77 : decode cX9_readNumber 77 = .ok (.getfield 22, 3) := by decide +kernel
theorem dX9_readNumber_80 : decode cX9_readNumber 80 = .ok (.aload_n 0, 1) := by decide +kernel
theorem dX9_readNumber_81 : decode cX9_readNumber 81 = .ok (.getfield 25, 3) := by decide +kernel
theorem dX9_readNumber_84 : decode cX9_readNumber 84 = .ok (.isub, 1) := by decide +kernel
theorem dX9_readNumber_85 : decode cX9_readNumber 85 = .ok (.iconst 3, 1) := by decide +kernel
theorem dX9_readNumber_86 : decode cX9_readNumber 86 = .ok (.if_icmp .le 7, 3) := by decide +kernel
theorem dX9_readNumber_89 : decode cX9_readNumber 89 = .ok (.iconst 0, 1) := by decide +kernel
theorem dX9_readNumber_90 : decode cX9_readNumber 90 = .ok (.goto 4, 3) := by decide +kernel
theorem dX9_readNumber_93 : decode cX9_readNumber 93 = .ok (.iconst 2, 1) := by decide +kernel
theorem dX9_readNumber_94 : decode cX9_readNumber 94 = .ok (.putfield 56, 3) := by decide +kernel
theorem dX9_readNumber_97 : decode cX9_readNumber 97 = .ok (.return_, 1) := by decide +kernel
theorem dX9_knownWord_0 : decode cX9_knownWord 0 = .ok (.aload_n 0, 1) := by decide +kernel
theorem dX9_knownWord_1 : decode cX9_knownWord 1 = .ok (.ldc 66, 2) := by decide +kernel
theorem dX9_knownWord_3 : decode cX9_knownWord 3 = .ok (.invokevirtual 68, 3) := by decide +kernel
theorem dX9_knownWord_6 : decode cX9_knownWord 6 = .ok (.ifCond .eq 5, 3) := by decide +kernel
theorem dX9_knownWord_9 : decode cX9_knownWord 9 = .ok (.iconst 1, 1) := by decide +kernel
theorem dX9_knownWord_10 : decode cX9_knownWord 10 = .ok (.ireturn, 1) := by decide +kernel
theorem dX9_knownWord_11 : decode cX9_knownWord 11 = .ok (.aload_n 0, 1) := by decide +kernel
theorem dX9_knownWord_12 : decode cX9_knownWord 12 = .ok (.ldc 72, 2) := by decide +kernel
theorem dX9_knownWord_14 : decode cX9_knownWord 14 = .ok (.invokevirtual 68, 3) := by decide +kernel
theorem dX9_knownWord_17 : decode cX9_knownWord 17 = .ok (.ifCond .eq 5, 3) := by decide +kernel
theorem dX9_knownWord_20 : decode cX9_knownWord 20 = .ok (.iconst 2, 1) := by decide +kernel
theorem dX9_knownWord_21 : decode cX9_knownWord 21 = .ok (.ireturn, 1) := by decide +kernel
theorem dX9_knownWord_22 : decode cX9_knownWord 22 = .ok (.aload_n 0, 1) := by decide +kernel
theorem dX9_knownWord_23 : decode cX9_knownWord 23 = .ok (.ldc 74, 2) := by decide +kernel
theorem dX9_knownWord_25 : decode cX9_knownWord 25 = .ok (.invokevirtual 68, 3) := by decide +kernel
theorem dX9_knownWord_28 : decode cX9_knownWord 28 = .ok (.ifCond .eq 5, 3) := by decide +kernel
theorem dX9_knownWord_31 : decode cX9_knownWord 31 = .ok (.iconst 3, 1) := by decide +kernel
theorem dX9_knownWord_32 : decode cX9_knownWord 32 = .ok (.ireturn, 1) := by decide +kernel
theorem dX9_knownWord_33 : decode cX9_knownWord 33 = .ok (.aload_n 0, 1) := by decide +kernel
theorem dX9_knownWord_34 : decode cX9_knownWord 34 = .ok (.ldc 76, 2) := by decide +kernel
theorem dX9_knownWord_36 : decode cX9_knownWord 36 = .ok (.invokevirtual 68, 3) := by decide +kernel
theorem dX9_knownWord_39 : decode cX9_knownWord 39 = .ok (.ifCond .eq 5, 3) := by decide +kernel
theorem dX9_knownWord_42 : decode cX9_knownWord 42 = .ok (.iconst 4, 1) := by decide +kernel
theorem dX9_knownWord_43 : decode cX9_knownWord 43 = .ok (.ireturn, 1) := by decide +kernel
theorem dX9_knownWord_44 : decode cX9_knownWord 44 = .ok (.aload_n 0, 1) := by decide +kernel
theorem dX9_knownWord_45 : decode cX9_knownWord 45 = .ok (.ldc 78, 2) := by decide +kernel
theorem dX9_knownWord_47 : decode cX9_knownWord 47 = .ok (.invokevirtual 68, 3) := by decide +kernel
theorem dX9_knownWord_50 : decode cX9_knownWord 50 = .ok (.ifCond .eq 5, 3) := by decide +kernel
theorem dX9_knownWord_53 : decode cX9_knownWord 53 = .ok (.iconst 5, 1) := by decide +kernel
theorem dX9_knownWord_54 : decode cX9_knownWord 54 = .ok (.ireturn, 1) := by decide +kernel
theorem dX9_knownWord_55 : decode cX9_knownWord 55 = .ok (.aload_n 0, 1) := by decide +kernel
theorem dX9_knownWord_56 : decode cX9_knownWord 56 = .ok (.ldc 80, 2) := by decide +kernel
theorem dX9_knownWord_58 : decode cX9_knownWord 58 = .ok (.invokevirtual 68, 3) := by decide +kernel
theorem dX9_knownWord_61 : decode cX9_knownWord 61 = .ok (.ifCond .eq 6, 3) := by decide +kernel
theorem dX9_knownWord_64 : decode cX9_knownWord 64 = .ok (.bipush 6, 2) := by decide +kernel
theorem dX9_knownWord_66 : decode cX9_knownWord 66 = .ok (.ireturn, 1) := by decide +kernel
theorem dX9_knownWord_67 : decode cX9_knownWord 67 = .ok (.aload_n 0, 1) := by decide +kernel
theorem dX9_knownWord_68 : decode cX9_knownWord 68 = .ok (.ldc 82, 2) := by decide +kernel
theorem dX9_knownWord_70 : decode cX9_knownWord 70 = .ok (.invokevirtual 68, 3) := by decide +kernel
theorem dX9_knownWord_73 : decode cX9_knownWord 73 = .ok (.ifCond .eq 8, 3) := by decide +kernel
theorem dX9_knownWord_76 : decode cX9_knownWord 76 = .ok (.bipush 7, 2) := by decide +kernel
theorem dX9_knownWord_78 : decode cX9_knownWord 78 = .ok (.goto 4, 3) := by decide +kernel
theorem dX9_knownWord_81 : decode cX9_knownWord 81 = .ok (.iconst 0, 1) := by decide +kernel
theorem dX9_knownWord_82 : decode cX9_knownWord 82 = .ok (.ireturn, 1) := by decide +kernel
theorem dX9_spells_0 : decode cX9_spells 0 = .ok (.aload_n 0, 1) := by decide +kernel
theorem dX9_spells_1 : decode cX9_spells 1 = .ok (.getfield 22, 3) := by decide +kernel
theorem dX9_spells_4 : decode cX9_spells 4 = .ok (.aload_n 0, 1) := by decide +kernel
theorem dX9_spells_5 : decode cX9_spells 5 = .ok (.getfield 25, 3) := by decide +kernel
theorem dX9_spells_8 : decode cX9_spells 8 = .ok (.isub, 1) := by decide +kernel
theorem dX9_spells_9 : decode cX9_spells 9 = .ok (.aload_n 1, 1) := by decide +kernel
theorem dX9_spells_10 : decode cX9_spells 10 = .ok (.invokevirtual 84, 3) := by decide +kernel
theorem dX9_spells_13 : decode cX9_spells 13 = .ok (.if_icmp .eq 5, 3) := by decide +kernel
theorem dX9_spells_16 : decode cX9_spells 16 = .ok (.iconst 0, 1) := by decide +kernel
theorem dX9_spells_17 : decode cX9_spells 17 = .ok (.ireturn, 1) := by decide +kernel
theorem dX9_spells_18 : decode cX9_spells 18 = .ok (.iconst 0, 1) := by decide +kernel
theorem dX9_spells_19 : decode cX9_spells 19 = .ok (.istore_n 2, 1) := by decide +kernel
theorem dX9_spells_20 : decode cX9_spells 20 = .ok (.iload_n 2, 1) := by decide +kernel
theorem dX9_spells_21 : decode cX9_spells 21 = .ok (.aload_n 1, 1) := by decide +kernel
theorem dX9_spells_22 : decode cX9_spells 22 = .ok (.invokevirtual 84, 3) := by decide +kernel
theorem dX9_spells_25 : decode cX9_spells 25 = .ok (.if_icmp .ge 32, 3) := by decide +kernel
theorem dX9_spells_28 : decode cX9_spells 28 = .ok (.aload_n 0, 1) := by decide +kernel
theorem dX9_spells_29 : decode cX9_spells 29 = .ok (.getfield 18, 3) := by decide +kernel
theorem dX9_spells_32 : decode cX9_spells 32 = .ok (.aload_n 0, 1) := by decide +kernel
theorem dX9_spells_33 : decode cX9_spells 33 = .ok (.getfield 25, 3) := by decide +kernel
theorem dX9_spells_36 : decode cX9_spells 36 = .ok (.iload_n 2, 1) := by decide +kernel
theorem dX9_spells_37 : decode cX9_spells 37 = .ok (.iadd, 1) := by decide +kernel
theorem dX9_spells_38 : decode cX9_spells 38 = .ok (.invokevirtual 33, 3) := by decide +kernel
theorem dX9_spells_41 : decode cX9_spells 41 = .ok (.aload_n 1, 1) := by decide +kernel
theorem dX9_spells_42 : decode cX9_spells 42 = .ok (.iload_n 2, 1) := by decide +kernel
theorem dX9_spells_43 : decode cX9_spells 43 = .ok (.invokevirtual 88, 3) := by decide +kernel
theorem dX9_spells_46 : decode cX9_spells 46 = .ok (.if_icmp .eq 5, 3) := by decide +kernel
theorem dX9_spells_49 : decode cX9_spells 49 = .ok (.iconst 0, 1) := by decide +kernel
theorem dX9_spells_50 : decode cX9_spells 50 = .ok (.ireturn, 1) := by decide +kernel
theorem dX9_spells_51 : decode cX9_spells 51 = .ok (.iinc 2 1, 3) := by decide +kernel
theorem dX9_spells_54 : decode cX9_spells 54 = .ok (.goto (-34), 3) := by decide +kernel
theorem dX9_spells_57 : decode cX9_spells 57 = .ok (.iconst 1, 1) := by decide +kernel
theorem dX9_spells_58 : decode cX9_spells 58 = .ok (.ireturn, 1) := by decide +kernel
theorem dX9_isBlank_0 : decode cX9_isBlank 0 = .ok (.iload_n 0, 1) := by decide +kernel
theorem dX9_isBlank_1 : decode cX9_isBlank 1 = .ok (.bipush 32, 2) := by decide +kernel
theorem dX9_isBlank_3 : decode cX9_isBlank 3 = .ok (.if_icmp .eq 9, 3) := by decide +kernel
theorem dX9_isBlank_6 : decode cX9_isBlank 6 = .ok (.iload_n 0, 1) := by decide +kernel
theorem dX9_isBlank_7 : decode cX9_isBlank 7 = .ok (.bipush 10, 2) := by decide +kernel
theorem dX9_isBlank_9 : decode cX9_isBlank 9 = .ok (.if_icmp .ne 7, 3) := by decide +kernel
theorem dX9_isBlank_12 : decode cX9_isBlank 12 = .ok (.iconst 1, 1) := by decide +kernel
theorem dX9_isBlank_13 : decode cX9_isBlank 13 = .ok (.goto 4, 3) := by decide +kernel
theorem dX9_isBlank_16 : decode cX9_isBlank 16 = .ok (.iconst 0, 1) := by decide +kernel
theorem dX9_isBlank_17 : decode cX9_isBlank 17 = .ok (.ireturn, 1) := by decide +kernel
theorem dX9_isLetter_0 : decode cX9_isLetter 0 = .ok (.iload_n 0, 1) := by decide +kernel
theorem dX9_isLetter_1 : decode cX9_isLetter 1 = .ok (.bipush 97, 2) := by decide +kernel
theorem dX9_isLetter_3 : decode cX9_isLetter 3 = .ok (.if_icmp .lt 13, 3) := by decide +kernel
theorem dX9_isLetter_6 : decode cX9_isLetter 6 = .ok (.iload_n 0, 1) := by decide +kernel
theorem dX9_isLetter_7 : decode cX9_isLetter 7 = .ok (.bipush 122, 2) := by decide +kernel
theorem dX9_isLetter_9 : decode cX9_isLetter 9 = .ok (.if_icmp .gt 7, 3) := by decide +kernel
theorem dX9_isLetter_12 : decode cX9_isLetter 12 = .ok (.iconst 1, 1) := by decide +kernel
theorem dX9_isLetter_13 : decode cX9_isLetter 13 = .ok (.goto 4, 3) := by decide +kernel
theorem dX9_isLetter_16 : decode cX9_isLetter 16 = .ok (.iconst 0, 1) := by decide +kernel
theorem dX9_isLetter_17 : decode cX9_isLetter 17 = .ok (.ireturn, 1) := by decide +kernel
theorem dX9_isDigit_0 : decode cX9_isDigit 0 = .ok (.iload_n 0, 1) := by decide +kernel
theorem dX9_isDigit_1 : decode cX9_isDigit 1 = .ok (.bipush 48, 2) := by decide +kernel
theorem dX9_isDigit_3 : decode cX9_isDigit 3 = .ok (.if_icmp .lt 13, 3) := by decide +kernel
theorem dX9_isDigit_6 : decode cX9_isDigit 6 = .ok (.iload_n 0, 1) := by decide +kernel
theorem dX9_isDigit_7 : decode cX9_isDigit 7 = .ok (.bipush 57, 2) := by decide +kernel
theorem dX9_isDigit_9 : decode cX9_isDigit 9 = .ok (.if_icmp .gt 7, 3) := by decide +kernel
theorem dX9_isDigit_12 : decode cX9_isDigit 12 = .ok (.iconst 1, 1) := by decide +kernel
theorem dX9_isDigit_13 : decode cX9_isDigit 13 = .ok (.goto 4, 3) := by decide +kernel
theorem dX9_isDigit_16 : decode cX9_isDigit 16 = .ok (.iconst 0, 1) := by decide +kernel
theorem dX9_isDigit_17 : decode cX9_isDigit 17 = .ok (.ireturn, 1) := by decide +kernel
theorem dX10_init_0 : decode cX10_init 0 = .ok (.aload_n 0, 1) := by decide +kernel
theorem dX10_init_1 : decode cX10_init 1 = .ok (.invokespecial 3, 3) := by decide +kernel
theorem dX10_init_4 : decode cX10_init 4 = .ok (.aload_n 0, 1) := by decide +kernel
theorem dX10_init_5 : decode cX10_init 5 = .ok (.bipush 40, 2) := by decide +kernel
theorem dX10_init_7 : decode cX10_init 7 = .ok (.newarray .int, 2) := by decide +kernel
theorem dX10_init_9 : decode cX10_init 9 = .ok (.putfield 9, 3) := by decide +kernel
theorem dX10_init_12 : decode cX10_init 12 = .ok (.aload_n 0, 1) := by decide +kernel
theorem dX10_init_13 : decode cX10_init 13 = .ok (.bipush 40, 2) := by decide +kernel
theorem dX10_init_15 : decode cX10_init 15 = .ok (.newarray .int, 2) := by decide +kernel
theorem dX10_init_17 : decode cX10_init 17 = .ok (.putfield 15, 3) := by decide +kernel
theorem dX10_init_20 : decode cX10_init 20 = .ok (.aload_n 0, 1) := by decide +kernel
theorem dX10_init_21 : decode cX10_init 21 = .ok (.bipush 40, 2) := by decide +kernel
theorem dX10_init_23 : decode cX10_init 23 = .ok (.newarray .int, 2) := by decide +kernel
theorem dX10_init_25 : decode cX10_init 25 = .ok (.putfield 18, 3) := by decide +kernel
theorem dX10_init_28 : decode cX10_init 28 = .ok (.aload_n 0, 1) := by decide +kernel
theorem dX10_init_29 : decode cX10_init 29 = .ok (.bipush 40, 2) := by decide +kernel
theorem dX10_init_31 : decode cX10_init 31 = .ok (.newarray .int, 2) := by decide +kernel
theorem dX10_init_33 : decode cX10_init 33 = .ok (.putfield 21, 3) := by decide +kernel
theorem dX10_init_36 : decode cX10_init 36 = .ok (.aload_n 0, 1) := by decide +kernel
theorem dX10_init_37 : decode cX10_init 37 = .ok (.bipush 40, 2) := by decide +kernel
theorem dX10_init_39 : decode cX10_init 39 = .ok (.newarray .int, 2) := by decide +kernel
theorem dX10_init_41 : decode cX10_init 41 = .ok (.putfield 24, 3) := by decide +kernel
theorem dX10_init_44 : decode cX10_init 44 = .ok (.aload_n 0, 1) := by decide +kernel
theorem dX10_init_45 : decode cX10_init 45 = .ok (.bipush 40, 2) := by decide +kernel
theorem dX10_init_47 : decode cX10_init 47 = .ok (.newarray .int, 2) := by decide +kernel
theorem dX10_init_49 : decode cX10_init 49 = .ok (.putfield 27, 3) := by decide +kernel
theorem dX10_init_52 : decode cX10_init 52 = .ok (.aload_n 0, 1) := by decide +kernel
theorem dX10_init_53 : decode cX10_init 53 = .ok (.bipush 64, 2) := by decide +kernel
theorem dX10_init_55 : decode cX10_init 55 = .ok (.newarray .int, 2) := by decide +kernel
theorem dX10_init_57 : decode cX10_init 57 = .ok (.putfield 30, 3) := by decide +kernel
theorem dX10_init_60 : decode cX10_init 60 = .ok (.aload_n 0, 1) := by decide +kernel
theorem dX10_init_61 : decode cX10_init 61 = .ok (.bipush 40, 2) := by decide +kernel
theorem dX10_init_63 : decode cX10_init 63 = .ok (.newarray .boolean, 2) := by decide +kernel
theorem dX10_init_65 : decode cX10_init 65 = .ok (.putfield 33, 3) := by decide +kernel
theorem dX10_init_68 : decode cX10_init 68 = .ok (.return_, 1) := by decide +kernel
theorem dX10_begin_0 : decode cX10_begin 0 = .ok (.aload_n 1, 1) := by decide +kernel
theorem dX10_begin_1 : decode cX10_begin 1 = .ok (.aload_n 0, 1) := by decide +kernel
theorem dX10_begin_2 : decode cX10_begin 2 = .ok (.getfield 30, 3) := by decide +kernel
theorem dX10_begin_5 : decode cX10_begin 5 = .ok (.invokestatic 41, 3) := by decide +kernel
theorem dX10_begin_8 : decode cX10_begin 8 = .ok (.aload_n 0, 1) := by decide +kernel
theorem dX10_begin_9 : decode cX10_begin 9 = .ok (.iconst 0, 1) := by decide +kernel
theorem dX10_begin_10 : decode cX10_begin 10 = .ok (.putfield 37, 3) := by decide +kernel
theorem dX10_begin_13 : decode cX10_begin 13 = .ok (.aload_n 0, 1) := by decide +kernel
theorem dX10_begin_14 : decode cX10_begin 14 = .ok (.iconst (-1), 1) := by decide +kernel
theorem dX10_begin_15 : decode cX10_begin 15 = .ok (.iload_n 3, 1) := by decide +kernel
theorem dX10_begin_16 : decode cX10_begin 16 = .ok (.iload_n 2, 1) := by decide +kernel
theorem dX10_begin_17 : decode cX10_begin 17 = .ok (.iload 4, 2) := by decide +kernel
theorem dX10_begin_19 : decode cX10_begin 19 = .ok (.iconst (-1), 1) := by decide +kernel
theorem dX10_begin_20 : decode cX10_begin 20 = .ok (.iconst 0, 1) := by decide +kernel
theorem dX10_begin_21 : decode cX10_begin 21 = .ok (.invokevirtual 49, 3) := by decide +kernel
theorem dX10_begin_24 : decode cX10_begin 24 = .ok (.pop, 1) := by decide +kernel
theorem dX10_begin_25 : decode cX10_begin 25 = .ok (.return_, 1) := by decide +kernel
theorem dX10_add_0 : decode cX10_add 0 = .ok (.aload_n 0, 1) := by decide +kernel
theorem dX10_add_1 : decode cX10_add 1 = .ok (.getfield 37, 3) := by decide +kernel
theorem dX10_add_4 : decode cX10_add 4 = .ok (.istore 7, 2) := by decide +kernel
theorem dX10_add_6 : decode cX10_add 6 = .ok (.aload_n 0, 1) := by decide +kernel
theorem dX10_add_7 : decode cX10_add 7 = .ok (.getfield 9, 3) := by decide +kernel
theorem dX10_add_10 : decode cX10_add 10 = .ok (.iload 7, 2) := by decide +kernel
theorem dX10_add_12 : decode cX10_add 12 = .ok (.iload_n 1, 1) := by decide +kernel
theorem dX10_add_13 : decode cX10_add 13 = .ok (.invokestatic 53, 3) := by decide +kernel
theorem dX10_add_16 : decode cX10_add 16 = .ok (.aload_n 0, 1) := by decide +kernel
theorem dX10_add_17 : decode cX10_add 17 = .ok (.getfield 15, 3) := by decide +kernel
theorem dX10_add_20 : decode cX10_add 20 = .ok (.iload 7, 2) := by decide +kernel
theorem dX10_add_22 : decode cX10_add 22 = .ok (.iload_n 2, 1) := by decide +kernel
theorem dX10_add_23 : decode cX10_add 23 = .ok (.invokestatic 53, 3) := by decide +kernel
theorem dX10_add_26 : decode cX10_add 26 = .ok (.aload_n 0, 1) := by decide +kernel
theorem dX10_add_27 : decode cX10_add 27 = .ok (.getfield 18, 3) := by decide +kernel
theorem dX10_add_30 : decode cX10_add 30 = .ok (.iload 7, 2) := by decide +kernel
theorem dX10_add_32 : decode cX10_add 32 = .ok (.iload_n 3, 1) := by decide +kernel
theorem dX10_add_33 : decode cX10_add 33 = .ok (.invokestatic 53, 3) := by decide +kernel
theorem dX10_add_36 : decode cX10_add 36 = .ok (.aload_n 0, 1) := by decide +kernel
theorem dX10_add_37 : decode cX10_add 37 = .ok (.getfield 21, 3) := by decide +kernel
theorem dX10_add_40 : decode cX10_add 40 = .ok (.iload 7, 2) := by decide +kernel
theorem dX10_add_42 : decode cX10_add 42 = .ok (.iload 4, 2) := by decide +kernel
theorem dX10_add_44 : decode cX10_add 44 = .ok (.invokestatic 53, 3) := by decide +kernel
theorem dX10_add_47 : decode cX10_add 47 = .ok (.aload_n 0, 1) := by decide +kernel
theorem dX10_add_48 : decode cX10_add 48 = .ok (.getfield 24, 3) := by decide +kernel
theorem dX10_add_51 : decode cX10_add 51 = .ok (.iload 7, 2) := by decide +kernel
theorem dX10_add_53 : decode cX10_add 53 = .ok (.iload 5, 2) := by decide +kernel
theorem dX10_add_55 : decode cX10_add 55 = .ok (.invokestatic 53, 3) := by decide +kernel
theorem dX10_add_58 : decode cX10_add 58 = .ok (.aload_n 0, 1) := by decide +kernel
theorem dX10_add_59 : decode cX10_add 59 = .ok (.getfield 27, 3) := by decide +kernel
theorem dX10_add_62 : decode cX10_add 62 = .ok (.iload 7, 2) := by decide +kernel
theorem dX10_add_64 : decode cX10_add 64 = .ok (.iload 6, 2) := by decide +kernel
theorem dX10_add_66 : decode cX10_add 66 = .ok (.invokestatic 53, 3) := by decide +kernel
theorem dX10_add_69 : decode cX10_add 69 = .ok (.aload_n 0, 1) := by decide +kernel
theorem dX10_add_70 : decode cX10_add 70 = .ok (.getfield 33, 3) := by decide +kernel
theorem dX10_add_73 : decode cX10_add 73 = .ok (.iload 7, 2) := by decide +kernel
theorem dX10_add_75 : decode cX10_add 75 = .ok (.iconst 0, 1) := by decide +kernel
theorem dX10_add_76 : decode cX10_add 76 = .ok (.invokestatic 57, 3) := by decide +kernel
theorem dX10_add_79 : decode cX10_add 79 = .ok (.aload_n 0, 1) := by decide +kernel
theorem dX10_add_80 : decode cX10_add 80 = .ok (.dup, 1) := by decide +kernel
theorem dX10_add_81 : decode cX10_add 81 = .ok (.getfield 37, 3) := by decide +kernel
theorem dX10_add_84 : decode cX10_add 84 = .ok (.iconst 1, 1) := by decide +kernel
theorem dX10_add_85 : decode cX10_add 85 = .ok (.iadd, 1) := by decide +kernel
theorem dX10_add_86 : decode cX10_add 86 = .ok (.putfield 37, 3) := by decide +kernel
theorem dX10_add_89 : decode cX10_add 89 = .ok (.iload 7, 2) := by decide +kernel
theorem dX10_add_91 : decode cX10_add 91 = .ok (.ireturn, 1) := by decide +kernel
theorem dX10_drop_0 : decode cX10_drop 0 = .ok (.aload_n 0, 1) := by decide +kernel
theorem dX10_drop_1 : decode cX10_drop 1 = .ok (.getfield 33, 3) := by decide +kernel
theorem dX10_drop_4 : decode cX10_drop 4 = .ok (.iload_n 1, 1) := by decide +kernel
theorem dX10_drop_5 : decode cX10_drop 5 = .ok (.iconst 1, 1) := by decide +kernel
theorem dX10_drop_6 : decode cX10_drop 6 = .ok (.invokestatic 57, 3) := by decide +kernel
theorem dX10_drop_9 : decode cX10_drop 9 = .ok (.return_, 1) := by decide +kernel
theorem dX10_has_0 : decode cX10_has 0 = .ok (.iload_n 1, 1) := by decide +kernel
theorem dX10_has_1 : decode cX10_has 1 = .ok (.ifCond .lt 15, 3) := by decide +kernel
theorem dX10_has_4 : decode cX10_has 4 = .ok (.iload_n 1, 1) := by decide +kernel
theorem dX10_has_5 : decode cX10_has 5 = .ok (.aload_n 0, 1) := by decide +kernel
theorem dX10_has_6 : decode cX10_has 6 = .ok (.getfield 37, 3) := by decide +kernel
theorem dX10_has_9 : decode cX10_has 9 = .ok (.if_icmp .ge 7, 3) := by decide +kernel
theorem dX10_has_12 : decode cX10_has 12 = .ok (.iconst 1, 1) := by decide +kernel
theorem dX10_has_13 : decode cX10_has 13 = .ok (.goto 4, 3) := by decide +kernel
theorem dX10_has_16 : decode cX10_has 16 = .ok (.iconst 0, 1) := by decide +kernel
theorem dX10_has_17 : decode cX10_has 17 = .ok (.ireturn, 1) := by decide +kernel
theorem dX10_isLive_0 : decode cX10_isLive 0 = .ok (.aload_n 0, 1) := by decide +kernel
theorem dX10_isLive_1 : decode cX10_isLive 1 = .ok (.iload_n 1, 1) := by decide +kernel
theorem dX10_isLive_2 : decode cX10_isLive 2 = .ok (.invokevirtual 61, 3) := by decide +kernel
theorem dX10_isLive_5 : decode cX10_isLive 5 = .ok (.ifCond .eq 18, 3) := by decide +kernel
theorem dX10_isLive_8 : decode cX10_isLive 8 = .ok (.aload_n 0, 1) := by decide +kernel
theorem dX10_isLive_9 : decode cX10_isLive 9 = .ok (.getfield 33, 3) := by decide +kernel
theorem dX10_isLive_12 : decode cX10_isLive 12 = .ok (.iload_n 1, 1) := by decide +kernel
theorem dX10_isLive_13 : decode cX10_isLive 13 = .ok (.invokestatic 65, 3) := by decide +kernel
theorem dX10_isLive_16 : decode cX10_isLive 16 = .ok (.ifCond .ne 7, 3) := by decide +kernel
theorem dX10_isLive_19 : decode cX10_isLive 19 = .ok (.iconst 1, 1) := by decide +kernel
theorem dX10_isLive_20 : decode cX10_isLive 20 = .ok (.goto 4, 3) := by decide +kernel
theorem dX10_isLive_23 : decode cX10_isLive 23 = .ok (.iconst 0, 1) := by decide +kernel
theorem dX10_isLive_24 : decode cX10_isLive 24 = .ok (.ireturn, 1) := by decide +kernel
theorem dX10_parentAt_0 : decode cX10_parentAt 0 = .ok (.aload_n 0, 1) := by decide +kernel
theorem dX10_parentAt_1 : decode cX10_parentAt 1 = .ok (.getfield 9, 3) := by decide +kernel
theorem dX10_parentAt_4 : decode cX10_parentAt 4 = .ok (.iload_n 1, 1) := by decide +kernel
theorem dX10_parentAt_5 : decode cX10_parentAt 5 = .ok (.invokestatic 69, 3) := by decide +kernel
theorem dX10_parentAt_8 : decode cX10_parentAt 8 = .ok (.ireturn, 1) := by decide +kernel
theorem dX10_rootAt_0 : decode cX10_rootAt 0 = .ok (.aload_n 0, 1) := by decide +kernel
theorem dX10_rootAt_1 : decode cX10_rootAt 1 = .ok (.getfield 15, 3) := by decide +kernel
theorem dX10_rootAt_4 : decode cX10_rootAt 4 = .ok (.iload_n 1, 1) := by decide +kernel
theorem dX10_rootAt_5 : decode cX10_rootAt 5 = .ok (.invokestatic 69, 3) := by decide +kernel
theorem dX10_rootAt_8 : decode cX10_rootAt 8 = .ok (.ireturn, 1) := by decide +kernel
theorem dX10_sizeAt_0 : decode cX10_sizeAt 0 = .ok (.aload_n 0, 1) := by decide +kernel
theorem dX10_sizeAt_1 : decode cX10_sizeAt 1 = .ok (.getfield 18, 3) := by decide +kernel
theorem dX10_sizeAt_4 : decode cX10_sizeAt 4 = .ok (.iload_n 1, 1) := by decide +kernel
theorem dX10_sizeAt_5 : decode cX10_sizeAt 5 = .ok (.invokestatic 69, 3) := by decide +kernel
theorem dX10_sizeAt_8 : decode cX10_sizeAt 8 = .ok (.ireturn, 1) := by decide +kernel
theorem dX10_createdForAt_0 : decode cX10_createdForAt 0 = .ok (.aload_n 0, 1) := by decide +kernel
theorem dX10_createdForAt_1 : decode cX10_createdForAt 1 = .ok (.getfield 21, 3) := by decide +kernel
theorem dX10_createdForAt_4 : decode cX10_createdForAt 4 = .ok (.iload_n 1, 1) := by decide +kernel
theorem dX10_createdForAt_5 : decode cX10_createdForAt 5 = .ok (.invokestatic 69, 3) := by decide +kernel
theorem dX10_createdForAt_8 : decode cX10_createdForAt 8 = .ok (.ireturn, 1) := by decide +kernel
theorem dX10_countLiveRoots_0 : decode cX10_countLiveRoots 0 = .ok (.iconst 0, 1) := by decide +kernel
theorem dX10_countLiveRoots_1 : decode cX10_countLiveRoots 1 = .ok (.istore_n 2, 1) := by decide +kernel
theorem dX10_countLiveRoots_2 : decode cX10_countLiveRoots 2 = .ok (.iconst 0, 1) := by decide +kernel
theorem dX10_countLiveRoots_3 : decode cX10_countLiveRoots 3 = .ok (.istore_n 3, 1) := by decide +kernel
theorem dX10_countLiveRoots_4 : decode cX10_countLiveRoots 4 = .ok (.iload_n 3, 1) := by decide +kernel
theorem dX10_countLiveRoots_5 : decode cX10_countLiveRoots 5 = .ok (.aload_n 0, 1) := by decide +kernel
theorem dX10_countLiveRoots_6 : decode cX10_countLiveRoots 6 = .ok (.getfield 37, 3) := by decide +kernel
theorem dX10_countLiveRoots_9 : decode cX10_countLiveRoots 9 = .ok (.if_icmp .ge 29, 3) := by decide +kernel
theorem dX10_countLiveRoots_12 : decode cX10_countLiveRoots 12 = .ok (.aload_n 0, 1) := by decide +kernel
theorem dX10_countLiveRoots_13 : decode cX10_countLiveRoots 13 = .ok (.iload_n 3, 1) := by decide +kernel
theorem dX10_countLiveRoots_14 : decode cX10_countLiveRoots 14 = .ok (.invokevirtual 73, 3) := by decide +kernel
theorem dX10_countLiveRoots_17 : decode cX10_countLiveRoots 17 = .ok (.ifCond .eq 15, 3) := by decide +kernel
theorem dX10_countLiveRoots_20 : decode cX10_countLiveRoots 20 = .ok (.aload_n 0, 1) := by decide +kernel
theorem dX10_countLiveRoots_21 : decode cX10_countLiveRoots 21 = .ok (.iload_n 3, 1) := by decide +kernel
theorem dX10_countLiveRoots_22 : decode cX10_countLiveRoots 22 = .ok (.invokevirtual 80, 3) := by decide +kernel
theorem dX10_countLiveRoots_25 : decode cX10_countLiveRoots 25 = .ok (.iload_n 1, 1) := by decide +kernel
theorem dX10_countLiveRoots_26 : decode cX10_countLiveRoots 26 = .ok (.if_icmp .ne 6, 3) := by decide +kernel
theorem dX10_countLiveRoots_29 : decode cX10_countLiveRoots 29 = .ok (.iinc 2 1, 3) := by decide +kernel
theorem dX10_countLiveRoots_32 : decode cX10_countLiveRoots 32 = .ok (.iinc 3 1, 3) := by decide +kernel
theorem dX10_countLiveRoots_35 : decode cX10_countLiveRoots 35 = .ok (.goto (-31), 3) := by decide +kernel
theorem dX10_countLiveRoots_38 : decode cX10_countLiveRoots 38 = .ok (.iload_n 2, 1) := by decide +kernel
theorem dX10_countLiveRoots_39 : decode cX10_countLiveRoots 39 = .ok (.ireturn, 1) := by decide +kernel
theorem dX10_recordedElement_0 : decode cX10_recordedElement 0 = .ok (.iload_n 1, 1) := by decide +kernel
theorem dX10_recordedElement_1 : decode cX10_recordedElement 1 = .ok (.istore_n 3, 1) := by decide +kernel
theorem dX10_recordedElement_2 : decode cX10_recordedElement 2 = .ok (.iconst 0, 1) := by decide +kernel
theorem dX10_recordedElement_3 : decode cX10_recordedElement 3 = .ok (.istore 4, 2) := by decide +kernel
theorem dX10_recordedElement_5 : decode cX10_recordedElement 5 = .ok (.iload_n 3, 1) := by decide +kernel
theorem dX10_recordedElement_6 : decode cX10_recordedElement 6 = .ok (.iconst (-1), 1) := by decide +kernel
theorem dX10_recordedElement_7 : decode cX10_recordedElement 7 = .ok (.if_icmp .eq 43, 3) := by decide +kernel
theorem dX10_recordedElement_10 : decode cX10_recordedElement 10 = .ok (.iload 4, 2) := by decide +kernel
theorem dX10_recordedElement_12 : decode cX10_recordedElement 12 = .ok (.bipush 40, 2) := by decide +kernel
theorem dX10_recordedElement_14 : decode cX10_recordedElement 14 = .ok (.if_icmp .ge 36, 3) := by decide +kernel
theorem dX10_recordedElement_17 : decode cX10_recordedElement 17 = .ok (.aload_n 0, 1) := by decide +kernel
theorem dX10_recordedElement_18 : decode cX10_recordedElement 18 = .ok (.getfield 24, 3) := by decide +kernel
theorem dX10_recordedElement_21 : decode cX10_recordedElement 21 = .ok (.iload_n 3, 1) := by decide +kernel
theorem dX10_recordedElement_22 : decode cX10_recordedElement 22 = .ok (.invokestatic 69, 3) := by decide +kernel
theorem dX10_recordedElement_25 : decode cX10_recordedElement 25 = .ok (.iload_n 2, 1) := by decide +kernel
theorem dX10_recordedElement_26 : decode cX10_recordedElement 26 = .ok (.if_icmp .ne 12, 3) := by decide +kernel
theorem dX10_recordedElement_29 : decode cX10_recordedElement 29 = .ok (.aload_n 0, 1) := by decide +kernel
theorem dX10_recordedElement_30 : decode cX10_recordedElement 30 = .ok (.getfield 27, 3) := by decide +kernel
theorem dX10_recordedElement_33 : decode cX10_recordedElement 33 = .ok (.iload_n 3, 1) := by decide +kernel
theorem dX10_recordedElement_34 : decode cX10_recordedElement 34 = .ok (.invokestatic 69, 3) := by decide +kernel
theorem dX10_recordedElement_37 : decode cX10_recordedElement 37 = .ok (.ireturn, 1) := by decide +kernel
theorem dX10_recordedElement_38 : decode cX10_recordedElement 38 = .ok (.aload_n 0, 1) := by decide +kernel
theorem dX10_recordedElement_39 : decode cX10_recordedElement 39 = .ok (.iload_n 3, 1) := by decide +kernel
theorem dX10_recordedElement_40 : decode cX10_recordedElement 40 = .ok (.invokevirtual 76, 3) := by decide +kernel
theorem dX10_recordedElement_43 : decode cX10_recordedElement 43 = .ok (.istore_n 3, 1) := by decide +kernel
theorem dX10_recordedElement_44 : decode cX10_recordedElement 44 = .ok (.iinc 4 1, 3) := by decide +kernel
theorem dX10_recordedElement_47 : decode cX10_recordedElement 47 = .ok (.goto (-42), 3) := by decide +kernel
theorem dX10_recordedElement_50 : decode cX10_recordedElement 50 = .ok (.aload_n 0, 1) := by decide +kernel
theorem dX10_recordedElement_51 : decode cX10_recordedElement 51 = .ok (.getfield 30, 3) := by decide +kernel
theorem dX10_recordedElement_54 : decode cX10_recordedElement 54 = .ok (.iload_n 2, 1) := by decide +kernel
theorem dX10_recordedElement_55 : decode cX10_recordedElement 55 = .ok (.invokestatic 69, 3) := by decide +kernel
theorem dX10_recordedElement_58 : decode cX10_recordedElement 58 = .ok (.ireturn, 1) := by decide +kernel
theorem dX10_sumOfCreated_0 : decode cX10_sumOfCreated 0 = .ok (.iconst 0, 1) := by decide +kernel
theorem dX10_sumOfCreated_1 : decode cX10_sumOfCreated 1 = .ok (.istore_n 1, 1) := by decide +kernel
theorem dX10_sumOfCreated_2 : decode cX10_sumOfCreated 2 = .ok (.iconst 0, 1) := by decide +kernel
theorem dX10_sumOfCreated_3 : decode cX10_sumOfCreated 3 = .ok (.istore_n 2, 1) := by decide +kernel
theorem dX10_sumOfCreated_4 : decode cX10_sumOfCreated 4 = .ok (.iload_n 2, 1) := by decide +kernel
theorem dX10_sumOfCreated_5 : decode cX10_sumOfCreated 5 = .ok (.aload_n 0, 1) := by decide +kernel
theorem dX10_sumOfCreated_6 : decode cX10_sumOfCreated 6 = .ok (.getfield 37, 3) := by decide +kernel
theorem dX10_sumOfCreated_9 : decode cX10_sumOfCreated 9 = .ok (.if_icmp .ge 17, 3) := by decide +kernel
theorem dX10_sumOfCreated_12 : decode cX10_sumOfCreated 12 = .ok (.iload_n 1, 1) := by decide +kernel
theorem dX10_sumOfCreated_13 : decode cX10_sumOfCreated 13 = .ok (.aload_n 0, 1) := by decide +kernel
theorem dX10_sumOfCreated_14 : decode cX10_sumOfCreated 14 = .ok (.iload_n 2, 1) := by decide +kernel
theorem dX10_sumOfCreated_15 : decode cX10_sumOfCreated 15 = .ok (.invokevirtual 86, 3) := by decide +kernel
theorem dX10_sumOfCreated_18 : decode cX10_sumOfCreated 18 = .ok (.iadd, 1) := by decide +kernel
theorem dX10_sumOfCreated_19 : decode cX10_sumOfCreated 19 = .ok (.istore_n 1, 1) := by decide +kernel
theorem dX10_sumOfCreated_20 : decode cX10_sumOfCreated 20 = .ok (.iinc 2 1, 3) := by decide +kernel
theorem dX10_sumOfCreated_23 : decode cX10_sumOfCreated 23 = .ok (.goto (-19), 3) := by decide +kernel
theorem dX10_sumOfCreated_26 : decode cX10_sumOfCreated 26 = .ok (.iload_n 1, 1) := by decide +kernel
theorem dX10_sumOfCreated_27 : decode cX10_sumOfCreated 27 = .ok (.ireturn, 1) := by decide +kernel
theorem dX10_isFull_0 : decode cX10_isFull 0 = .ok (.aload_n 0, 1) := by decide +kernel
theorem dX10_isFull_1 : decode cX10_isFull 1 = .ok (.getfield 37, 3) := by decide +kernel
theorem dX10_isFull_4 : decode cX10_isFull 4 = .ok (.bipush 40, 2) := by decide +kernel
theorem dX10_isFull_6 : decode cX10_isFull 6 = .ok (.if_icmp .lt 7, 3) := by decide +kernel
theorem dX10_isFull_9 : decode cX10_isFull 9 = .ok (.iconst 1, 1) := by decide +kernel
theorem dX10_isFull_10 : decode cX10_isFull 10 = .ok (.goto 4, 3) := by decide +kernel
theorem dX10_isFull_13 : decode cX10_isFull 13 = .ok (.iconst 0, 1) := by decide +kernel
theorem dX10_isFull_14 : decode cX10_isFull 14 = .ok (.ireturn, 1) := by decide +kernel
theorem dX10_faultOfReading_0 : decode cX10_faultOfReading 0 = .ok (.aload_n 0, 1) := by decide +kernel
theorem dX10_faultOfReading_1 : decode cX10_faultOfReading 1 = .ok (.iload_n 1, 1) := by decide +kernel
theorem dX10_faultOfReading_2 : decode cX10_faultOfReading 2 = .ok (.invokevirtual 61, 3) := by decide +kernel
theorem dX10_faultOfReading_5 : decode cX10_faultOfReading 5 = .ok (.ifCond .ne 5, 3) := by decide +kernel
theorem dX10_faultOfReading_8 : decode cX10_faultOfReading 8 = .ok (.iconst 1, 1) := by decide +kernel
theorem dX10_faultOfReading_9 : decode cX10_faultOfReading 9 = .ok (.ireturn, 1) := by decide +kernel
theorem dX10_faultOfReading_10 : decode cX10_faultOfReading 10 = .ok (.aload_n 0, 1) := by decide +kernel
theorem dX10_faultOfReading_11 : decode cX10_faultOfReading 11 = .ok (.iload_n 1, 1) := by decide +kernel
theorem dX10_faultOfReading_12 : decode cX10_faultOfReading 12 = .ok (.invokevirtual 73, 3) := by decide +kernel
theorem dX10_faultOfReading_15 : decode cX10_faultOfReading 15 = .ok (.ifCond .eq 7, 3) := by decide +kernel
theorem dX10_faultOfReading_18 : decode cX10_faultOfReading 18 = .ok (.iconst 0, 1) := by decide +kernel
theorem dX10_faultOfReading_19 : decode cX10_faultOfReading 19 = .ok (.goto 4, 3) := by decide +kernel
theorem dX10_faultOfReading_22 : decode cX10_faultOfReading 22 = .ok (.iconst 3, 1) := by decide +kernel
theorem dX10_faultOfReading_23 : decode cX10_faultOfReading 23 = .ok (.ireturn, 1) := by decide +kernel
theorem dX10_faultOfElement_0 : decode cX10_faultOfElement 0 = .ok (.aload_n 0, 1) := by decide +kernel
theorem dX10_faultOfElement_1 : decode cX10_faultOfElement 1 = .ok (.iload_n 1, 1) := by decide +kernel
theorem dX10_faultOfElement_2 : decode cX10_faultOfElement 2 = .ok (.invokevirtual 89, 3) := by decide +kernel
theorem dX10_faultOfElement_5 : decode cX10_faultOfElement 5 = .ok (.istore_n 3, 1) := by decide +kernel
theorem dX10_faultOfElement_6 : decode cX10_faultOfElement 6 = .ok (.iload_n 3, 1) := by decide +kernel
theorem dX10_faultOfElement_7 : decode cX10_faultOfElement 7 = .ok (.ifCond .ne 18, 3) := by decide +kernel
theorem dX10_faultOfElement_10 : decode cX10_faultOfElement 10 = .ok (.iload_n 2, 1) := by decide +kernel
theorem dX10_faultOfElement_11 : decode cX10_faultOfElement 11 = .ok (.ifCond .lt 12, 3) := by decide +kernel
theorem dX10_faultOfElement_14 : decode cX10_faultOfElement 14 = .ok (.iload_n 2, 1) := by decide +kernel
theorem dX10_faultOfElement_15 : decode cX10_faultOfElement 15 = .ok (.aload_n 0, 1) := by decide +kernel
theorem dX10_faultOfElement_16 : decode cX10_faultOfElement 16 = .ok (.iload_n 1, 1) := by decide +kernel
theorem dX10_faultOfElement_17 : decode cX10_faultOfElement 17 = .ok (.invokevirtual 83, 3) := by decide +kernel
theorem dX10_faultOfElement_20 : decode cX10_faultOfElement 20 = .ok (.if_icmp .lt 5, 3) := by decide +kernel
theorem dX10_faultOfElement_23 : decode cX10_faultOfElement 23 = .ok (.iconst 1, 1) := by decide +kernel
theorem dX10_faultOfElement_24 : decode cX10_faultOfElement 24 = .ok (.ireturn, 1) := by decide +kernel
theorem dX10_faultOfElement_25 : decode cX10_faultOfElement 25 = .ok (.iload_n 3, 1) := by decide +kernel
theorem dX10_faultOfElement_26 : decode cX10_faultOfElement 26 = .ok (.ireturn, 1) := by decide +kernel
theorem dX10_faultOfReplacement_0 : decode cX10_faultOfReplacement 0 = .ok (.aload_n 0, 1) := by decide +kernel
theorem dX10_faultOfReplacement_1 : decode cX10_faultOfReplacement 1 = .ok (.iload_n 1, 1) := by decide +kernel
theorem dX10_faultOfReplacement_2 : decode cX10_faultOfReplacement 2 = .ok (.iload_n 2, 1) := by decide +kernel
theorem dX10_faultOfReplacement_3 : decode cX10_faultOfReplacement 3 = .ok (.invokevirtual 92, 3) := by decide +kernel
theorem dX10_faultOfReplacement_6 : decode cX10_faultOfReplacement 6 = .ok (.istore 4, 2) := by decide +kernel
theorem dX10_faultOfReplacement_8 : decode cX10_faultOfReplacement 8 = .ok (.iload 4, 2) := by decide +kernel
theorem dX10_faultOfReplacement_10 : decode cX10_faultOfReplacement 10 = .ok (.iconst 1, 1) := by decide +kernel
theorem dX10_faultOfReplacement_11 : decode cX10_faultOfReplacement 11 = .ok (.if_icmp .eq 12, 3) := by decide +kernel
theorem dX10_faultOfReplacement_14 : decode cX10_faultOfReplacement 14 = .ok (.iload_n 3, 1) := by decide +kernel
theorem dX10_faultOfReplacement_15 : decode cX10_faultOfReplacement 15 = .ok (.invokestatic 96, 3) := by decide +kernel
theorem dX10_faultOfReplacement_18 : decode cX10_faultOfReplacement 18 = .ok (.ifCond .ne 5, 3) := by decide +kernel
theorem dX10_faultOfReplacement_21 : decode cX10_faultOfReplacement 21 = .ok (.iconst 2, 1) := by decide +kernel
theorem dX10_faultOfReplacement_22 : decode cX10_faultOfReplacement 22 = .ok (.ireturn, 1) := by decide +kernel
theorem dX10_faultOfReplacement_23 : decode cX10_faultOfReplacement 23 = .ok (.iload 4, 2) := by decide +kernel
theorem dX10_faultOfReplacement_25 : decode cX10_faultOfReplacement 25 = .ok (.ireturn, 1) := by decide +kernel
theorem dX10_faultOfSet_0 : decode cX10_faultOfSet 0 = .ok (.aload_n 0, 1) := by decide +kernel
theorem dX10_faultOfSet_1 : decode cX10_faultOfSet 1 = .ok (.iload_n 1, 1) := by decide +kernel
theorem dX10_faultOfSet_2 : decode cX10_faultOfSet 2 = .ok (.iload_n 2, 1) := by decide +kernel
theorem dX10_faultOfSet_3 : decode cX10_faultOfSet 3 = .ok (.iload_n 3, 1) := by decide +kernel
theorem dX10_faultOfSet_4 : decode cX10_faultOfSet 4 = .ok (.invokevirtual 99, 3) := by decide +kernel
theorem dX10_faultOfSet_7 : decode cX10_faultOfSet 7 = .ok (.istore 4, 2) := by decide +kernel
theorem dX10_faultOfSet_9 : decode cX10_faultOfSet 9 = .ok (.iload 4, 2) := by decide +kernel
theorem dX10_faultOfSet_11 : decode cX10_faultOfSet 11 = .ok (.ifCond .ne 14, 3) := by decide +kernel
theorem dX10_faultOfSet_14 : decode cX10_faultOfSet 14 = .ok (.aload_n 0, 1) := by decide +kernel
theorem dX10_faultOfSet_15 : decode cX10_faultOfSet 15 = .ok (.invokevirtual 103, 3) := by decide +kernel
theorem dX10_faultOfSet_18 : decode cX10_faultOfSet 18 = .ok (.ifCond .eq 7, 3) := by decide +kernel
theorem dX10_faultOfSet_21 : decode cX10_faultOfSet 21 = .ok (.iconst 3, 1) := by decide +kernel
theorem dX10_faultOfSet_22 : decode cX10_faultOfSet 22 = .ok (.goto 5, 3) := by decide +kernel
theorem dX10_faultOfSet_25 : decode cX10_faultOfSet 25 = .ok (.iload 4, 2) := by decide +kernel
theorem dX10_faultOfSet_27 : decode cX10_faultOfSet 27 = .ok (.ireturn, 1) := by decide +kernel
theorem dX10_faultOfAppend_0 : decode cX10_faultOfAppend 0 = .ok (.aload_n 0, 1) := by decide +kernel
theorem dX10_faultOfAppend_1 : decode cX10_faultOfAppend 1 = .ok (.iload_n 1, 1) := by decide +kernel
theorem dX10_faultOfAppend_2 : decode cX10_faultOfAppend 2 = .ok (.invokevirtual 61, 3) := by decide +kernel
theorem dX10_faultOfAppend_5 : decode cX10_faultOfAppend 5 = .ok (.ifCond .ne 5, 3) := by decide +kernel
theorem dX10_faultOfAppend_8 : decode cX10_faultOfAppend 8 = .ok (.iconst 1, 1) := by decide +kernel
theorem dX10_faultOfAppend_9 : decode cX10_faultOfAppend 9 = .ok (.ireturn, 1) := by decide +kernel
theorem dX10_faultOfAppend_10 : decode cX10_faultOfAppend 10 = .ok (.iload_n 2, 1) := by decide +kernel
theorem dX10_faultOfAppend_11 : decode cX10_faultOfAppend 11 = .ok (.invokestatic 96, 3) := by decide +kernel
theorem dX10_faultOfAppend_14 : decode cX10_faultOfAppend 14 = .ok (.ifCond .ne 5, 3) := by decide +kernel
theorem dX10_faultOfAppend_17 : decode cX10_faultOfAppend 17 = .ok (.iconst 2, 1) := by decide +kernel
theorem dX10_faultOfAppend_18 : decode cX10_faultOfAppend 18 = .ok (.ireturn, 1) := by decide +kernel
theorem dX10_faultOfAppend_19 : decode cX10_faultOfAppend 19 = .ok (.aload_n 0, 1) := by decide +kernel
theorem dX10_faultOfAppend_20 : decode cX10_faultOfAppend 20 = .ok (.iload_n 1, 1) := by decide +kernel
theorem dX10_faultOfAppend_21 : decode cX10_faultOfAppend 21 = .ok (.invokevirtual 73, 3) := by decide +kernel
theorem dX10_faultOfAppend_24 : decode cX10_faultOfAppend 24 = .ok (.ifCond .eq 20, 3) := by decide +kernel
theorem dX10_faultOfAppend_27 : decode cX10_faultOfAppend 27 = .ok (.aload_n 0, 1) := by decide +kernel
theorem dX10_faultOfAppend_28 : decode cX10_faultOfAppend 28 = .ok (.iload_n 1, 1) := by decide +kernel
theorem dX10_faultOfAppend_29 : decode cX10_faultOfAppend 29 = .ok (.invokevirtual 83, 3) := by decide +kernel
theorem dX10_faultOfAppend_32 : decode cX10_faultOfAppend 32 = .ok (.bipush 64, 2) := by decide +kernel
theorem dX10_faultOfAppend_34 : decode cX10_faultOfAppend 34 = .ok (.if_icmp .ge 10, 3) := by decide +kernel
theorem dX10_faultOfAppend_37 : decode cX10_faultOfAppend 37 = .ok (.aload_n 0, 1) := by decide +kernel
theorem dX10_faultOfAppend_38 : decode cX10_faultOfAppend 38 = .ok (.invokevirtual 103, 3) := by decide +kernel
theorem dX10_faultOfAppend_41 : decode cX10_faultOfAppend 41 = .ok (.ifCond .eq 7, 3) := by decide +kernel
theorem dX10_faultOfAppend_44 : decode cX10_faultOfAppend 44 = .ok (.iconst 3, 1) := by decide +kernel
theorem dX10_faultOfAppend_45 : decode cX10_faultOfAppend 45 = .ok (.goto 4, 3) := by decide +kernel
theorem dX10_faultOfAppend_48 : decode cX10_faultOfAppend 48 = .ok (.iconst 0, 1) := by decide +kernel
theorem dX10_faultOfAppend_49 : decode cX10_faultOfAppend 49 = .ok (.ireturn, 1) := by decide +kernel
theorem dX10_faultOfTruncate_0 : decode cX10_faultOfTruncate 0 = .ok (.aload_n 0, 1) := by decide +kernel
theorem dX10_faultOfTruncate_1 : decode cX10_faultOfTruncate 1 = .ok (.iload_n 1, 1) := by decide +kernel
theorem dX10_faultOfTruncate_2 : decode cX10_faultOfTruncate 2 = .ok (.invokevirtual 61, 3) := by decide +kernel
theorem dX10_faultOfTruncate_5 : decode cX10_faultOfTruncate 5 = .ok (.ifCond .ne 5, 3) := by decide +kernel
theorem dX10_faultOfTruncate_8 : decode cX10_faultOfTruncate 8 = .ok (.iconst 1, 1) := by decide +kernel
theorem dX10_faultOfTruncate_9 : decode cX10_faultOfTruncate 9 = .ok (.ireturn, 1) := by decide +kernel
theorem dX10_faultOfTruncate_10 : decode cX10_faultOfTruncate 10 = .ok (.iload_n 2, 1) := by decide +kernel
theorem dX10_faultOfTruncate_11 : decode cX10_faultOfTruncate 11 = .ok (.ifCond .lt 20, 3) := by decide +kernel
theorem dX10_faultOfTruncate_14 : decode cX10_faultOfTruncate 14 = .ok (.aload_n 0, 1) := by decide +kernel
theorem dX10_faultOfTruncate_15 : decode cX10_faultOfTruncate 15 = .ok (.iload_n 1, 1) := by decide +kernel
theorem dX10_faultOfTruncate_16 : decode cX10_faultOfTruncate 16 = .ok (.invokevirtual 73, 3) := by decide +kernel
theorem dX10_faultOfTruncate_19 : decode cX10_faultOfTruncate 19 = .ok (.ifCond .eq 14, 3) := by decide +kernel
theorem dX10_faultOfTruncate_22 : decode cX10_faultOfTruncate 22 = .ok (.iload_n 2, 1) := by decide +kernel
theorem dX10_faultOfTruncate_23 : decode cX10_faultOfTruncate 23 = .ok (.aload_n 0, 1) := by decide +kernel
theorem dX10_faultOfTruncate_24 : decode cX10_faultOfTruncate 24 = .ok (.iload_n 1, 1) := by decide +kernel
theorem dX10_faultOfTruncate_25 : decode cX10_faultOfTruncate 25 = .ok (.invokevirtual 83, 3) := by decide +kernel
theorem dX10_faultOfTruncate_28 : decode cX10_faultOfTruncate 28 = .ok (.if_icmp .le 5, 3) := by decide +kernel
theorem dX10_faultOfTruncate_31 : decode cX10_faultOfTruncate 31 = .ok (.iconst 2, 1) := by decide +kernel
theorem dX10_faultOfTruncate_32 : decode cX10_faultOfTruncate 32 = .ok (.ireturn, 1) := by decide +kernel
theorem dX10_faultOfTruncate_33 : decode cX10_faultOfTruncate 33 = .ok (.aload_n 0, 1) := by decide +kernel
theorem dX10_faultOfTruncate_34 : decode cX10_faultOfTruncate 34 = .ok (.iload_n 1, 1) := by decide +kernel
theorem dX10_faultOfTruncate_35 : decode cX10_faultOfTruncate 35 = .ok (.invokevirtual 73, 3) := by decide +kernel
theorem dX10_faultOfTruncate_38 : decode cX10_faultOfTruncate 38 = .ok (.ifCond .eq 10, 3) := by decide +kernel
theorem dX10_faultOfTruncate_41 : decode cX10_faultOfTruncate 41 = .ok (.aload_n 0, 1) := by decide +kernel
theorem dX10_faultOfTruncate_42 : decode cX10_faultOfTruncate 42 = .ok (.invokevirtual 103, 3) := by decide +kernel
theorem dX10_faultOfTruncate_45 : decode cX10_faultOfTruncate 45 = .ok (.ifCond .eq 7, 3) := by decide +kernel
theorem dX10_faultOfTruncate_48 : decode cX10_faultOfTruncate 48 = .ok (.iconst 3, 1) := by decide +kernel
theorem dX10_faultOfTruncate_49 : decode cX10_faultOfTruncate 49 = .ok (.goto 4, 3) := by decide +kernel
theorem dX10_faultOfTruncate_52 : decode cX10_faultOfTruncate 52 = .ok (.iconst 0, 1) := by decide +kernel
theorem dX10_faultOfTruncate_53 : decode cX10_faultOfTruncate 53 = .ok (.ireturn, 1) := by decide +kernel
theorem dX11_init_0 : decode cX11_init 0 = .ok (.aload_n 0, 1) := by decide +kernel
theorem dX11_init_1 : decode cX11_init 1 = .ok (.invokespecial 1, 3) := by decide +kernel
theorem dX11_init_4 : decode cX11_init 4 = .ok (.aload_n 0, 1) := by decide +kernel
theorem dX11_init_5 : decode cX11_init 5 = .ok (.new 7, 3) := by decide +kernel
theorem dX11_init_8 : decode cX11_init 8 = .ok (.dup, 1) := by decide +kernel
theorem dX11_init_9 : decode cX11_init 9 = .ok (.invokespecial 9, 3) := by decide +kernel
theorem dX11_init_12 : decode cX11_init 12 = .ok (.putfield 10, 3) := by decide +kernel
theorem dX11_init_15 : decode cX11_init 15 = .ok (.aload_n 0, 1) := by decide +kernel
theorem dX11_init_16 : decode cX11_init 16 = .ok (.new 7, 3) := by decide +kernel
theorem dX11_init_19 : decode cX11_init 19 = .ok (.dup, 1) := by decide +kernel
theorem dX11_init_20 : decode cX11_init 20 = .ok (.invokespecial 9, 3) := by decide +kernel
theorem dX11_init_23 : decode cX11_init 23 = .ok (.putfield 16, 3) := by decide +kernel
theorem dX11_init_26 : decode cX11_init 26 = .ok (.aload_n 0, 1) := by decide +kernel
theorem dX11_init_27 : decode cX11_init 27 = .ok (.new 19, 3) := by decide +kernel
theorem dX11_init_30 : decode cX11_init 30 = .ok (.dup, 1) := by decide +kernel
theorem dX11_init_31 : decode cX11_init 31 = .ok (.aload_n 0, 1) := by decide +kernel
theorem dX11_init_32 : decode cX11_init 32 = .ok (.getfield 10, 3) := by decide +kernel
theorem dX11_init_35 : decode cX11_init 35 = .ok (.invokespecial 21, 3) := by decide +kernel
theorem dX11_init_38 : decode cX11_init 38 = .ok (.putfield 24, 3) := by decide +kernel
theorem dX11_init_41 : decode cX11_init 41 = .ok (.aload_n 0, 1) := by decide +kernel
theorem dX11_init_42 : decode cX11_init 42 = .ok (.new 28, 3) := by decide +kernel
theorem dX11_init_45 : decode cX11_init 45 = .ok (.dup, 1) := by decide +kernel
theorem dX11_init_46 : decode cX11_init 46 = .ok (.aload_n 0, 1) := by decide +kernel
theorem dX11_init_47 : decode cX11_init 47 = .ok (.getfield 10, 3) := by decide +kernel
theorem dX11_init_50 : decode cX11_init 50 = .ok (.aload_n 0, 1) := by decide +kernel
theorem dX11_init_51 : decode cX11_init 51 = .ok (.getfield 24, 3) := by decide +kernel
theorem dX11_init_54 : decode cX11_init 54 = .ok (.invokespecial 30, 3) := by decide +kernel
theorem dX11_init_57 : decode cX11_init 57 = .ok (.putfield 33, 3) := by decide +kernel
theorem dX11_init_60 : decode cX11_init 60 = .ok (.aload_n 0, 1) := by decide +kernel
theorem dX11_init_61 : decode cX11_init 61 = .ok (.new 37, 3) := by decide +kernel
theorem dX11_init_64 : decode cX11_init 64 = .ok (.dup, 1) := by decide +kernel
theorem dX11_init_65 : decode cX11_init 65 = .ok (.invokespecial 39, 3) := by decide +kernel
theorem dX11_init_68 : decode cX11_init 68 = .ok (.putfield 40, 3) := by decide +kernel
theorem dX11_init_71 : decode cX11_init 71 = .ok (.aload_n 0, 1) := by decide +kernel
theorem dX11_init_72 : decode cX11_init 72 = .ok (.new 44, 3) := by decide +kernel
theorem dX11_init_75 : decode cX11_init 75 = .ok (.dup, 1) := by decide +kernel
theorem dX11_init_76 : decode cX11_init 76 = .ok (.invokespecial 46, 3) := by decide +kernel
theorem dX11_init_79 : decode cX11_init 79 = .ok (.putfield 47, 3) := by decide +kernel
theorem dX11_init_82 : decode cX11_init 82 = .ok (.aload_n 0, 1) := by decide +kernel
theorem dX11_init_83 : decode cX11_init 83 = .ok (.new 51, 3) := by decide +kernel
theorem dX11_init_86 : decode cX11_init 86 = .ok (.dup, 1) := by decide +kernel
theorem dX11_init_87 : decode cX11_init 87 = .ok (.aload_n 0, 1) := by decide +kernel
theorem dX11_init_88 : decode cX11_init 88 = .ok (.getfield 47, 3) := by decide +kernel
theorem dX11_init_91 : decode cX11_init 91 = .ok (.invokespecial 53, 3) := by decide +kernel
theorem dX11_init_94 : decode cX11_init 94 = .ok (.putfield 56, 3) := by decide +kernel
theorem dX11_init_97 : decode cX11_init 97 = .ok (.aload_n 0, 1) := by decide +kernel
theorem dX11_init_98 : decode cX11_init 98 = .ok (.new 60, 3) := by decide +kernel
theorem dX11_init_101 : decode cX11_init 101 = .ok (.dup, 1) := by decide +kernel
theorem dX11_init_102 : decode cX11_init 102 = .ok (.aload_n 0, 1) := by decide +kernel
theorem dX11_init_103 : decode cX11_init 103 = .ok (.getfield 56, 3) := by decide +kernel
theorem dX11_init_106 : decode cX11_init 106 = .ok (.invokespecial 62, 3) := by decide +kernel
theorem dX11_init_109 : decode cX11_init 109 = .ok (.putfield 65, 3) := by decide +kernel
theorem dX11_init_112 : decode cX11_init 112 = .ok (.aload_n 0, 1) := by decide +kernel
theorem dX11_init_113 : decode cX11_init 113 = .ok (.new 69, 3) := by decide +kernel
theorem dX11_init_116 : decode cX11_init 116 = .ok (.dup, 1) := by decide +kernel
theorem dX11_init_117 : decode cX11_init 117 = .ok (.aload_n 0, 1) := by decide +kernel
theorem dX11_init_118 : decode cX11_init 118 = .ok (.getfield 56, 3) := by decide +kernel
theorem dX11_init_121 : decode cX11_init 121 = .ok (.invokespecial 71, 3) := by decide +kernel
theorem dX11_init_124 : decode cX11_init 124 = .ok (.putfield 72, 3) := by decide +kernel
theorem dX11_init_127 : decode cX11_init 127 = .ok (.aload_n 0, 1) := by decide +kernel
theorem dX11_init_128 : decode cX11_init 128 = .ok (.new 76, 3) := by decide +kernel
theorem dX11_init_131 : decode cX11_init 131 = .ok (.dup, 1) := by decide +kernel
theorem dX11_init_132 : decode cX11_init 132 = .ok (.invokespecial 78, 3) := by decide +kernel
theorem dX11_init_135 : decode cX11_init 135 = .ok (.putfield 79, 3) := by decide +kernel
theorem dX11_init_138 : decode cX11_init 138 = .ok (.aload_n 0, 1) := by decide +kernel
theorem dX11_init_139 : decode cX11_init 139 = .ok (.getfield 10, 3) := by decide +kernel
theorem dX11_init_142 : decode cX11_init 142 = .ok (.getstatic 83, 3) := by decide +kernel
theorem dX11_init_145 : decode cX11_init 145 = .ok (.getstatic 83, 3) := by decide +kernel
theorem dX11_init_148 : decode cX11_init 148 = .ok (.arraylength, 1) := by decide +kernel
theorem dX11_init_149 : decode cX11_init 149 = .ok (.invokevirtual 87, 3) := by decide +kernel
theorem dX11_init_152 : decode cX11_init 152 = .ok (.return_, 1) := by decide +kernel
theorem dX11_appendInput_0 : decode cX11_appendInput 0 = .ok (.aload_n 0, 1) := by decide +kernel
theorem dX11_appendInput_1 : decode cX11_appendInput 1 = .ok (.getfield 47, 3) := by decide +kernel
theorem dX11_appendInput_4 : decode cX11_appendInput 4 = .ok (.invokevirtual 91, 3) := by decide +kernel
theorem dX11_appendInput_7 : decode cX11_appendInput 7 = .ok (.ifCond .ne 5, 3) := by decide +kernel
theorem dX11_appendInput_10 : decode cX11_appendInput 10 = .ok (.iconst (-1), 1) := by decide +kernel
theorem dX11_appendInput_11 : decode cX11_appendInput 11 = .ok (.ireturn, 1) := by decide +kernel
theorem dX11_appendInput_12 : decode cX11_appendInput 12 = .ok (.aload_n 0, 1) := by decide +kernel
theorem dX11_appendInput_13 : decode cX11_appendInput 13 = .ok (.getfield 47, 3) := by decide +kernel
theorem dX11_appendInput_16 : decode cX11_appendInput 16 = .ok (.iload_n 1, 1) := by decide +kernel
theorem dX11_appendInput_17 : decode cX11_appendInput 17 = .ok (.invokevirtual 95, 3) := by decide +kernel
theorem dX11_appendInput_20 : decode cX11_appendInput 20 = .ok (.aload_n 0, 1) := by decide +kernel
theorem dX11_appendInput_21 : decode cX11_appendInput 21 = .ok (.getfield 47, 3) := by decide +kernel
theorem dX11_appendInput_24 : decode cX11_appendInput 24 = .ok (.iload_n 2, 1) := by decide +kernel
theorem dX11_appendInput_25 : decode cX11_appendInput 25 = .ok (.invokevirtual 95, 3) := by decide +kernel
theorem dX11_appendInput_28 : decode cX11_appendInput 28 = .ok (.aload_n 0, 1) := by decide +kernel
theorem dX11_appendInput_29 : decode cX11_appendInput 29 = .ok (.getfield 47, 3) := by decide +kernel
theorem dX11_appendInput_32 : decode cX11_appendInput 32 = .ok (.iload_n 3, 1) := by decide +kernel
theorem dX11_appendInput_33 : decode cX11_appendInput 33 = .ok (.invokevirtual 95, 3) := by decide +kernel
theorem dX11_appendInput_36 : decode cX11_appendInput 36 = .ok (.aload_n 0, 1) := by decide +kernel
theorem dX11_appendInput_37 : decode cX11_appendInput 37 = .ok (.getfield 47, 3) := by decide +kernel
theorem dX11_appendInput_40 : decode cX11_appendInput 40 = .ok (.iload 4, 2) := by decide +kernel
theorem dX11_appendInput_42 : decode cX11_appendInput 42 = .ok (.invokevirtual 95, 3) := by decide +kernel
theorem dX11_appendInput_45 : decode cX11_appendInput 45 = .ok (.aload_n 0, 1) := by decide +kernel
theorem dX11_appendInput_46 : decode cX11_appendInput 46 = .ok (.getfield 47, 3) := by decide +kernel
theorem dX11_appendInput_49 : decode cX11_appendInput 49 = .ok (.iload 5, 2) := by decide +kernel
theorem dX11_appendInput_51 : decode cX11_appendInput 51 = .ok (.invokevirtual 95, 3) := by decide +kernel
theorem dX11_appendInput_54 : decode cX11_appendInput 54 = .ok (.aload_n 0, 1) := by decide +kernel
theorem dX11_appendInput_55 : decode cX11_appendInput 55 = .ok (.getfield 47, 3) := by decide +kernel
theorem dX11_appendInput_58 : decode cX11_appendInput 58 = .ok (.getfield 99, 3) := by decide +kernel
theorem dX11_appendInput_61 : decode cX11_appendInput 61 = .ok (.ireturn, 1) := by decide +kernel
theorem dX11_truncateInput_0 : decode cX11_truncateInput 0 = .ok (.iload_n 1, 1) := by decide +kernel
theorem dX11_truncateInput_1 : decode cX11_truncateInput 1 = .ok (.ifCond .lt 14, 3) := by decide +kernel
theorem dX11_truncateInput_4 : decode cX11_truncateInput 4 = .ok (.iload_n 1, 1) := by decide +kernel
theorem dX11_truncateInput_5 : decode cX11_truncateInput 5 = .ok (.aload_n 0, 1) := by decide +kernel
theorem dX11_truncateInput_6 : decode cX11_truncateInput 6 = .ok (.getfield 47, 3) := by decide +kernel
theorem dX11_truncateInput_9 : decode cX11_truncateInput 9 = .ok (.getfield 99, 3) := by decide +kernel
theorem dX11_truncateInput_12 : decode cX11_truncateInput 12 = .ok (.if_icmp .le 5, 3) := by decide +kernel
theorem dX11_truncateInput_15 : decode cX11_truncateInput 15 = .ok (.iconst 0, 1) := by decide +kernel
theorem dX11_truncateInput_16 : decode cX11_truncateInput 16 = .ok (.ireturn, 1) := by decide +kernel
theorem dX11_truncateInput_17 : decode cX11_truncateInput 17 = .ok (.aload_n 0, 1) := by decide +kernel
theorem dX11_truncateInput_18 : decode cX11_truncateInput 18 = .ok (.getfield 47, 3) := by decide +kernel
theorem dX11_truncateInput_21 : decode cX11_truncateInput 21 = .ok (.iload_n 1, 1) := by decide +kernel
theorem dX11_truncateInput_22 : decode cX11_truncateInput 22 = .ok (.putfield 99, 3) := by decide +kernel
theorem dX11_truncateInput_25 : decode cX11_truncateInput 25 = .ok (.iconst 1, 1) := by decide +kernel
theorem dX11_truncateInput_26 : decode cX11_truncateInput 26 = .ok (.ireturn, 1) := by decide +kernel
theorem dX11_loadSetup_0 : decode cX11_loadSetup 0 = .ok (.aload_n 0, 1) := by decide +kernel
theorem dX11_loadSetup_1 : decode cX11_loadSetup 1 = .ok (.getfield 65, 3) := by decide +kernel
theorem dX11_loadSetup_4 : decode cX11_loadSetup 4 = .ok (.invokevirtual 103, 3) := by decide +kernel
theorem dX11_loadSetup_7 : decode cX11_loadSetup 7 = .ok (.istore_n 1, 1) := by decide +kernel
theorem dX11_loadSetup_8 : decode cX11_loadSetup 8 = .ok (.aload_n 0, 1) := by decide +kernel
theorem dX11_loadSetup_9 : decode cX11_loadSetup 9 = .ok (.getfield 47, 3) := by decide +kernel
theorem dX11_loadSetup_12 : decode cX11_loadSetup 12 = .ok (.iconst 0, 1) := by decide +kernel
theorem dX11_loadSetup_13 : decode cX11_loadSetup 13 = .ok (.putfield 99, 3) := by decide +kernel
theorem dX11_loadSetup_16 : decode cX11_loadSetup 16 = .ok (.iload_n 1, 1) := by decide +kernel
theorem dX11_loadSetup_17 : decode cX11_loadSetup 17 = .ok (.ifCond .ne 5, 3) := by decide +kernel
theorem dX11_loadSetup_20 : decode cX11_loadSetup 20 = .ok (.iconst (-1), 1) := by decide +kernel
theorem dX11_loadSetup_21 : decode cX11_loadSetup 21 = .ok (.ireturn, 1) := by decide +kernel
theorem dX11_loadSetup_22 : decode cX11_loadSetup 22 = .ok (.aload_n 0, 1) := by decide +kernel
theorem dX11_loadSetup_23 : decode cX11_loadSetup 23 = .ok (.getfield 10, 3) := by decide +kernel
theorem dX11_loadSetup_26 : decode cX11_loadSetup 26 = .ok (.aload_n 0, 1) := by decide +kernel
theorem dX11_loadSetup_27 : decode cX11_loadSetup 27 = .ok (.getfield 65, 3) := by decide +kernel
theorem dX11_loadSetup_30 : decode cX11_loadSetup 30 = .ok (.getfield 106, 3) := by decide +kernel
theorem dX11_loadSetup_33 : decode cX11_loadSetup 33 = .ok (.aload_n 0, 1) := by decide +kernel
theorem dX11_loadSetup_34 : decode cX11_loadSetup 34 = .ok (.getfield 65, 3) := by decide +kernel
theorem dX11_loadSetup_37 : decode cX11_loadSetup 37 = .ok (.getfield 109, 3) := by decide +kernel
theorem dX11_loadSetup_40 : decode cX11_loadSetup 40 = .ok (.invokevirtual 87, 3) := by decide +kernel
theorem dX11_loadSetup_43 : decode cX11_loadSetup 43 = .ok (.aload_n 0, 1) := by decide +kernel
theorem dX11_loadSetup_44 : decode cX11_loadSetup 44 = .ok (.getfield 40, 3) := by decide +kernel
theorem dX11_loadSetup_47 : decode cX11_loadSetup 47 = .ok (.invokevirtual 112, 3) := by decide +kernel
theorem dX11_loadSetup_50 : decode cX11_loadSetup 50 = .ok (.aload_n 0, 1) := by decide +kernel
theorem dX11_loadSetup_51 : decode cX11_loadSetup 51 = .ok (.iconst 0, 1) := by decide +kernel
theorem dX11_loadSetup_52 : decode cX11_loadSetup 52 = .ok (.putfield 115, 3) := by decide +kernel
theorem dX11_loadSetup_55 : decode cX11_loadSetup 55 = .ok (.aload_n 0, 1) := by decide +kernel
theorem dX11_loadSetup_56 : decode cX11_loadSetup 56 = .ok (.getfield 65, 3) := by decide +kernel
theorem dX11_loadSetup_59 : decode cX11_loadSetup 59 = .ok (.getfield 109, 3) := by decide +kernel
theorem dX11_loadSetup_62 : decode cX11_loadSetup 62 = .ok (.ireturn, 1) := by decide +kernel
theorem dX11_versionCount_0 : decode cX11_versionCount 0 = .ok (.aload_n 0, 1) := by decide +kernel
theorem dX11_versionCount_1 : decode cX11_versionCount 1 = .ok (.getfield 10, 3) := by decide +kernel
theorem dX11_versionCount_4 : decode cX11_versionCount 4 = .ok (.getfield 137, 3) := by decide +kernel
theorem dX11_versionCount_7 : decode cX11_versionCount 7 = .ok (.getfield 141, 3) := by decide +kernel
theorem dX11_versionCount_10 : decode cX11_versionCount 10 = .ok (.ireturn, 1) := by decide +kernel
theorem dX11_isReleased_0 : decode cX11_isReleased 0 = .ok (.aload_n 0, 1) := by decide +kernel
theorem dX11_isReleased_1 : decode cX11_isReleased 1 = .ok (.iload_n 1, 1) := by decide +kernel
theorem dX11_isReleased_2 : decode cX11_isReleased 2 = .ok (.invokevirtual 148, 3) := by decide +kernel
theorem dX11_isReleased_5 : decode cX11_isReleased 5 = .ok (.aload_n 0, 1) := by decide +kernel
theorem dX11_isReleased_6 : decode cX11_isReleased 6 = .ok (.getfield 10, 3) := by decide +kernel
theorem dX11_isReleased_9 : decode cX11_isReleased 9 = .ok (.getfield 137, 3) := by decide +kernel
theorem dX11_isReleased_12 : decode cX11_isReleased 12 = .ok (.iload_n 1, 1) := by decide +kernel
theorem dX11_isReleased_13 : decode cX11_isReleased 13 = .ok (.invokevirtual 151, 3) := by decide +kernel
theorem dX11_isReleased_16 : decode cX11_isReleased 16 = .ok (.ifCond .ne 7, 3) := by decide +kernel
theorem dX11_isReleased_19 : decode cX11_isReleased 19 = .ok (.iconst 1, 1) := by decide +kernel
theorem dX11_isReleased_20 : decode cX11_isReleased 20 = .ok (.goto 4, 3) := by decide +kernel
theorem dX11_isReleased_23 : decode cX11_isReleased 23 = .ok (.iconst 0, 1) := by decide +kernel
theorem dX11_isReleased_24 : decode cX11_isReleased 24 = .ok (.ireturn, 1) := by decide +kernel
theorem dX11_parentOf_0 : decode cX11_parentOf 0 = .ok (.aload_n 0, 1) := by decide +kernel
theorem dX11_parentOf_1 : decode cX11_parentOf 1 = .ok (.iload_n 1, 1) := by decide +kernel
theorem dX11_parentOf_2 : decode cX11_parentOf 2 = .ok (.invokevirtual 148, 3) := by decide +kernel
theorem dX11_parentOf_5 : decode cX11_parentOf 5 = .ok (.aload_n 0, 1) := by decide +kernel
theorem dX11_parentOf_6 : decode cX11_parentOf 6 = .ok (.getfield 10, 3) := by decide +kernel
theorem dX11_parentOf_9 : decode cX11_parentOf 9 = .ok (.getfield 137, 3) := by decide +kernel
theorem dX11_parentOf_12 : decode cX11_parentOf 12 = .ok (.iload_n 1, 1) := by decide +kernel
theorem dX11_parentOf_13 : decode cX11_parentOf 13 = .ok (.invokevirtual 155, 3) := by decide +kernel
theorem dX11_parentOf_16 : decode cX11_parentOf 16 = .ok (.ireturn, 1) := by decide +kernel
theorem dX11_size_0 : decode cX11_size 0 = .ok (.aload_n 0, 1) := by decide +kernel
theorem dX11_size_1 : decode cX11_size 1 = .ok (.iload_n 1, 1) := by decide +kernel
theorem dX11_size_2 : decode cX11_size 2 = .ok (.invokevirtual 168, 3) := by decide +kernel
theorem dX11_size_5 : decode cX11_size 5 = .ok (.aload_n 0, 1) := by decide +kernel
theorem dX11_size_6 : decode cX11_size 6 = .ok (.getfield 10, 3) := by decide +kernel
theorem dX11_size_9 : decode cX11_size 9 = .ok (.getfield 137, 3) := by decide +kernel
theorem dX11_size_12 : decode cX11_size 12 = .ok (.iload_n 1, 1) := by decide +kernel
theorem dX11_size_13 : decode cX11_size 13 = .ok (.invokevirtual 171, 3) := by decide +kernel
theorem dX11_size_16 : decode cX11_size 16 = .ok (.ireturn, 1) := by decide +kernel
theorem dX11_height_0 : decode cX11_height 0 = .ok (.aload_n 0, 1) := by decide +kernel
theorem dX11_height_1 : decode cX11_height 1 = .ok (.iload_n 1, 1) := by decide +kernel
theorem dX11_height_2 : decode cX11_height 2 = .ok (.invokevirtual 168, 3) := by decide +kernel
theorem dX11_height_5 : decode cX11_height 5 = .ok (.aload_n 0, 1) := by decide +kernel
theorem dX11_height_6 : decode cX11_height 6 = .ok (.getfield 10, 3) := by decide +kernel
theorem dX11_height_9 : decode cX11_height 9 = .ok (.iload_n 1, 1) := by decide +kernel
theorem dX11_height_10 : decode cX11_height 10 = .ok (.invokevirtual 174, 3) := by decide +kernel
theorem dX11_height_13 : decode cX11_height 13 = .ok (.ireturn, 1) := by decide +kernel
theorem dX11_rootOf_0 : decode cX11_rootOf 0 = .ok (.aload_n 0, 1) := by decide +kernel
theorem dX11_rootOf_1 : decode cX11_rootOf 1 = .ok (.iload_n 1, 1) := by decide +kernel
theorem dX11_rootOf_2 : decode cX11_rootOf 2 = .ok (.invokevirtual 168, 3) := by decide +kernel
theorem dX11_rootOf_5 : decode cX11_rootOf 5 = .ok (.aload_n 0, 1) := by decide +kernel
theorem dX11_rootOf_6 : decode cX11_rootOf 6 = .ok (.getfield 10, 3) := by decide +kernel
theorem dX11_rootOf_9 : decode cX11_rootOf 9 = .ok (.getfield 137, 3) := by decide +kernel
theorem dX11_rootOf_12 : decode cX11_rootOf 12 = .ok (.iload_n 1, 1) := by decide +kernel
theorem dX11_rootOf_13 : decode cX11_rootOf 13 = .ok (.invokevirtual 177, 3) := by decide +kernel
theorem dX11_rootOf_16 : decode cX11_rootOf 16 = .ok (.ireturn, 1) := by decide +kernel
theorem dX11_get_0 : decode cX11_get 0 = .ok (.aload_n 0, 1) := by decide +kernel
theorem dX11_get_1 : decode cX11_get 1 = .ok (.getfield 10, 3) := by decide +kernel
theorem dX11_get_4 : decode cX11_get 4 = .ok (.getfield 137, 3) := by decide +kernel
theorem dX11_get_7 : decode cX11_get 7 = .ok (.iload_n 1, 1) := by decide +kernel
theorem dX11_get_8 : decode cX11_get 8 = .ok (.iload_n 2, 1) := by decide +kernel
theorem dX11_get_9 : decode cX11_get 9 = .ok (.invokevirtual 180, 3) := by decide +kernel
theorem dX11_get_12 : decode cX11_get 12 = .ok (.invokestatic 183, 3) := by decide +kernel
theorem dX11_get_15 : decode cX11_get 15 = .ok (.aload_n 0, 1) := by decide +kernel
theorem dX11_get_16 : decode cX11_get 16 = .ok (.getfield 10, 3) := by decide +kernel
theorem dX11_get_19 : decode cX11_get 19 = .ok (.iload_n 1, 1) := by decide +kernel
theorem dX11_get_20 : decode cX11_get 20 = .ok (.iload_n 2, 1) := by decide +kernel
theorem dX11_get_21 : decode cX11_get 21 = .ok (.invokevirtual 186, 3) := by decide +kernel
theorem dX11_get_24 : decode cX11_get 24 = .ok (.ireturn, 1) := by decide +kernel
theorem dX11_leafOf_0 : decode cX11_leafOf 0 = .ok (.aload_n 0, 1) := by decide +kernel
theorem dX11_leafOf_1 : decode cX11_leafOf 1 = .ok (.getfield 10, 3) := by decide +kernel
theorem dX11_leafOf_4 : decode cX11_leafOf 4 = .ok (.getfield 137, 3) := by decide +kernel
theorem dX11_leafOf_7 : decode cX11_leafOf 7 = .ok (.iload_n 1, 1) := by decide +kernel
theorem dX11_leafOf_8 : decode cX11_leafOf 8 = .ok (.iload_n 2, 1) := by decide +kernel
theorem dX11_leafOf_9 : decode cX11_leafOf 9 = .ok (.invokevirtual 180, 3) := by decide +kernel
theorem dX11_leafOf_12 : decode cX11_leafOf 12 = .ok (.invokestatic 183, 3) := by decide +kernel
theorem dX11_leafOf_15 : decode cX11_leafOf 15 = .ok (.aload_n 0, 1) := by decide +kernel
theorem dX11_leafOf_16 : decode cX11_leafOf 16 = .ok (.getfield 10, 3) := by decide +kernel
theorem dX11_leafOf_19 : decode cX11_leafOf 19 = .ok (.iload_n 1, 1) := by decide +kernel
theorem dX11_leafOf_20 : decode cX11_leafOf 20 = .ok (.iload_n 2, 1) := by decide +kernel
theorem dX11_leafOf_21 : decode cX11_leafOf 21 = .ok (.invokevirtual 189, 3) := by decide +kernel
theorem dX11_leafOf_24 : decode cX11_leafOf 24 = .ok (.ireturn, 1) := by decide +kernel
theorem dX11_sum_0 : decode cX11_sum 0 = .ok (.aload_n 0, 1) := by decide +kernel
theorem dX11_sum_1 : decode cX11_sum 1 = .ok (.iload_n 1, 1) := by decide +kernel
theorem dX11_sum_2 : decode cX11_sum 2 = .ok (.invokevirtual 168, 3) := by decide +kernel
theorem dX11_sum_5 : decode cX11_sum 5 = .ok (.aload_n 0, 1) := by decide +kernel
theorem dX11_sum_6 : decode cX11_sum 6 = .ok (.getfield 10, 3) := by decide +kernel
theorem dX11_sum_9 : decode cX11_sum 9 = .ok (.iload_n 1, 1) := by decide +kernel
theorem dX11_sum_10 : decode cX11_sum 10 = .ok (.invokevirtual 192, 3) := by decide +kernel
theorem dX11_sum_13 : decode cX11_sum 13 = .ok (.ireturn, 1) := by decide +kernel
theorem dX11_storedNodes_0 : decode cX11_storedNodes 0 = .ok (.aload_n 0, 1) := by decide +kernel
theorem dX11_storedNodes_1 : decode cX11_storedNodes 1 = .ok (.getfield 10, 3) := by decide +kernel
theorem dX11_storedNodes_4 : decode cX11_storedNodes 4 = .ok (.getfield 198, 3) := by decide +kernel
theorem dX11_storedNodes_7 : decode cX11_storedNodes 7 = .ok (.invokevirtual 207, 3) := by decide +kernel
theorem dX11_storedNodes_10 : decode cX11_storedNodes 10 = .ok (.ireturn, 1) := by decide +kernel
theorem dX11_garbageNodes_0 : decode cX11_garbageNodes 0 = .ok (.aload_n 0, 1) := by decide +kernel
theorem dX11_garbageNodes_1 : decode cX11_garbageNodes 1 = .ok (.getfield 24, 3) := by decide +kernel
theorem dX11_garbageNodes_4 : decode cX11_garbageNodes 4 = .ok (.invokevirtual 210, 3) := by decide +kernel
theorem dX11_garbageNodes_7 : decode cX11_garbageNodes 7 = .ok (.ireturn, 1) := by decide +kernel
theorem dX11_nodesCreatedFor_0 : decode cX11_nodesCreatedFor 0 = .ok (.aload_n 0, 1) := by decide +kernel
theorem dX11_nodesCreatedFor_1 : decode cX11_nodesCreatedFor 1 = .ok (.iload_n 1, 1) := by decide +kernel
theorem dX11_nodesCreatedFor_2 : decode cX11_nodesCreatedFor 2 = .ok (.invokevirtual 148, 3) := by decide +kernel
theorem dX11_nodesCreatedFor_5 : decode cX11_nodesCreatedFor 5 = .ok (.aload_n 0, 1) := by decide +kernel
theorem dX11_nodesCreatedFor_6 : decode cX11_nodesCreatedFor 6 = .ok (.getfield 10, 3) := by decide +kernel
theorem dX11_nodesCreatedFor_9 : decode cX11_nodesCreatedFor 9 = .ok (.getfield 137, 3) := by decide +kernel
theorem dX11_nodesCreatedFor_12 : decode cX11_nodesCreatedFor 12 = .ok (.iload_n 1, 1) := by decide +kernel
theorem dX11_nodesCreatedFor_13 : decode cX11_nodesCreatedFor 13 = .ok (.invokevirtual 213, 3) := by decide +kernel
theorem dX11_nodesCreatedFor_16 : decode cX11_nodesCreatedFor 16 = .ok (.ireturn, 1) := by decide +kernel
theorem dX11_isLeaf_0 : decode cX11_isLeaf 0 = .ok (.aload_n 0, 1) := by decide +kernel
theorem dX11_isLeaf_1 : decode cX11_isLeaf 1 = .ok (.iload_n 1, 1) := by decide +kernel
theorem dX11_isLeaf_2 : decode cX11_isLeaf 2 = .ok (.invokevirtual 229, 3) := by decide +kernel
theorem dX11_isLeaf_5 : decode cX11_isLeaf 5 = .ok (.aload_n 0, 1) := by decide +kernel
theorem dX11_isLeaf_6 : decode cX11_isLeaf 6 = .ok (.getfield 10, 3) := by decide +kernel
theorem dX11_isLeaf_9 : decode cX11_isLeaf 9 = .ok (.getfield 198, 3) := by decide +kernel
theorem dX11_isLeaf_12 : decode cX11_isLeaf 12 = .ok (.iload_n 1, 1) := by decide +kernel
theorem dX11_isLeaf_13 : decode cX11_isLeaf 13 = .ok (.invokevirtual 232, 3) := by decide +kernel
theorem dX11_isLeaf_16 : decode cX11_isLeaf 16 = .ok (.iconst 1, 1) := by decide +kernel
theorem dX11_isLeaf_17 : decode cX11_isLeaf 17 = .ok (.if_icmp .ne 7, 3) := by decide +kernel
theorem dX11_isLeaf_20 : decode cX11_isLeaf 20 = .ok (.iconst 1, 1) := by decide +kernel
theorem dX11_isLeaf_21 : decode cX11_isLeaf 21 = .ok (.goto 4, 3) := by decide +kernel
theorem dX11_isLeaf_24 : decode cX11_isLeaf 24 = .ok (.iconst 0, 1) := by decide +kernel
theorem dX11_isLeaf_25 : decode cX11_isLeaf 25 = .ok (.ireturn, 1) := by decide +kernel
theorem dX11_entryCount_0 : decode cX11_entryCount 0 = .ok (.aload_n 0, 1) := by decide +kernel
theorem dX11_entryCount_1 : decode cX11_entryCount 1 = .ok (.iload_n 1, 1) := by decide +kernel
theorem dX11_entryCount_2 : decode cX11_entryCount 2 = .ok (.invokevirtual 229, 3) := by decide +kernel
theorem dX11_entryCount_5 : decode cX11_entryCount 5 = .ok (.aload_n 0, 1) := by decide +kernel
theorem dX11_entryCount_6 : decode cX11_entryCount 6 = .ok (.getfield 10, 3) := by decide +kernel
theorem dX11_entryCount_9 : decode cX11_entryCount 9 = .ok (.getfield 198, 3) := by decide +kernel
theorem dX11_entryCount_12 : decode cX11_entryCount 12 = .ok (.iload_n 1, 1) := by decide +kernel
theorem dX11_entryCount_13 : decode cX11_entryCount 13 = .ok (.invokevirtual 235, 3) := by decide +kernel
theorem dX11_entryCount_16 : decode cX11_entryCount 16 = .ok (.ireturn, 1) := by decide +kernel
theorem dX11_childOf_0 : decode cX11_childOf 0 = .ok (.aload_n 0, 1) := by decide +kernel
theorem dX11_childOf_1 : decode cX11_childOf 1 = .ok (.iload_n 1, 1) := by decide +kernel
theorem dX11_childOf_2 : decode cX11_childOf 2 = .ok (.invokevirtual 229, 3) := by decide +kernel
theorem dX11_childOf_5 : decode cX11_childOf 5 = .ok (.aload_n 0, 1) := by decide +kernel
theorem dX11_childOf_6 : decode cX11_childOf 6 = .ok (.getfield 10, 3) := by decide +kernel
theorem dX11_childOf_9 : decode cX11_childOf 9 = .ok (.getfield 198, 3) := by decide +kernel
theorem dX11_childOf_12 : decode cX11_childOf 12 = .ok (.iload_n 1, 1) := by decide +kernel
theorem dX11_childOf_13 : decode cX11_childOf 13 = .ok (.iload_n 2, 1) := by decide +kernel
theorem dX11_childOf_14 : decode cX11_childOf 14 = .ok (.invokevirtual 238, 3) := by decide +kernel
theorem dX11_childOf_17 : decode cX11_childOf 17 = .ok (.ireturn, 1) := by decide +kernel
theorem dX11_referencesTo_0 : decode cX11_referencesTo 0 = .ok (.aload_n 0, 1) := by decide +kernel
theorem dX11_referencesTo_1 : decode cX11_referencesTo 1 = .ok (.iload_n 1, 1) := by decide +kernel
theorem dX11_referencesTo_2 : decode cX11_referencesTo 2 = .ok (.invokevirtual 229, 3) := by decide +kernel
theorem dX11_referencesTo_5 : decode cX11_referencesTo 5 = .ok (.aload_n 0, 1) := by decide +kernel
theorem dX11_referencesTo_6 : decode cX11_referencesTo 6 = .ok (.getfield 10, 3) := by decide +kernel
theorem dX11_referencesTo_9 : decode cX11_referencesTo 9 = .ok (.getfield 137, 3) := by decide +kernel
theorem dX11_referencesTo_12 : decode cX11_referencesTo 12 = .ok (.iload_n 1, 1) := by decide +kernel
theorem dX11_referencesTo_13 : decode cX11_referencesTo 13 = .ok (.invokevirtual 241, 3) := by decide +kernel
theorem dX11_referencesTo_16 : decode cX11_referencesTo 16 = .ok (.aload_n 0, 1) := by decide +kernel
theorem dX11_referencesTo_17 : decode cX11_referencesTo 17 = .ok (.getfield 10, 3) := by decide +kernel
theorem dX11_referencesTo_20 : decode cX11_referencesTo 20 = .ok (.getfield 198, 3) := by decide +kernel
theorem dX11_referencesTo_23 : decode cX11_referencesTo 23 = .ok (.iload_n 1, 1) := by decide +kernel
theorem dX11_referencesTo_24 : decode cX11_referencesTo 24 = .ok (.invokevirtual 244, 3) := by decide +kernel
theorem dX11_referencesTo_27 : decode cX11_referencesTo 27 = .ok (.iadd, 1) := by decide +kernel
theorem dX11_referencesTo_28 : decode cX11_referencesTo 28 = .ok (.ireturn, 1) := by decide +kernel
theorem dX11_nodesForSet_0 : decode cX11_nodesForSet 0 = .ok (.aload_n 0, 1) := by decide +kernel
theorem dX11_nodesForSet_1 : decode cX11_nodesForSet 1 = .ok (.getfield 10, 3) := by decide +kernel
theorem dX11_nodesForSet_4 : decode cX11_nodesForSet 4 = .ok (.getfield 137, 3) := by decide +kernel
theorem dX11_nodesForSet_7 : decode cX11_nodesForSet 7 = .ok (.iload_n 1, 1) := by decide +kernel
theorem dX11_nodesForSet_8 : decode cX11_nodesForSet 8 = .ok (.iload_n 2, 1) := by decide +kernel
theorem dX11_nodesForSet_9 : decode cX11_nodesForSet 9 = .ok (.iload_n 3, 1) := by decide +kernel
theorem dX11_nodesForSet_10 : decode cX11_nodesForSet 10 = .ok (.invokevirtual 256, 3) := by decide +kernel
theorem dX11_nodesForSet_13 : decode cX11_nodesForSet 13 = .ok (.invokestatic 183, 3) := by decide +kernel
theorem dX11_nodesForSet_16 : decode cX11_nodesForSet 16 = .ok (.aload_n 0, 1) := by decide +kernel
theorem dX11_nodesForSet_17 : decode cX11_nodesForSet 17 = .ok (.getfield 10, 3) := by decide +kernel
theorem dX11_nodesForSet_20 : decode cX11_nodesForSet 20 = .ok (.iload_n 1, 1) := by decide +kernel
theorem dX11_nodesForSet_21 : decode cX11_nodesForSet 21 = .ok (.iload_n 2, 1) := by decide +kernel
theorem dX11_nodesForSet_22 : decode cX11_nodesForSet 22 = .ok (.invokevirtual 186, 3) := by decide +kernel
theorem dX11_nodesForSet_25 : decode cX11_nodesForSet 25 = .ok (.iload_n 3, 1) := by decide +kernel
theorem dX11_nodesForSet_26 : decode cX11_nodesForSet 26 = .ok (.if_icmp .ne 7, 3) := by decide +kernel
theorem dX11_nodesForSet_29 : decode cX11_nodesForSet 29 = .ok (.iconst 0, 1) := by decide +kernel
theorem dX11_nodesForSet_30 : decode cX11_nodesForSet 30 = .ok (.goto 11, 3) := by decide +kernel
theorem dX11_nodesForSet_33 : decode cX11_nodesForSet 33 = .ok (.aload_n 0, 1) := by decide +kernel
theorem dX11_nodesForSet_34 : decode cX11_nodesForSet 34 = .ok (.getfield 10, 3) := by decide +kernel
theorem dX11_nodesForSet_37 : decode cX11_nodesForSet 37 = .ok (.iload_n 1, 1) := by decide +kernel
theorem dX11_nodesForSet_38 : decode cX11_nodesForSet 38 = .ok (.invokevirtual 174, 3) := by decide +kernel
theorem dX11_nodesForSet_41 : decode cX11_nodesForSet 41 = .ok (.ireturn, 1) := by decide +kernel
theorem dX11_nodesForAppend_0 : decode cX11_nodesForAppend 0 = .ok (.aload_n 0, 1) := by decide +kernel
theorem dX11_nodesForAppend_1 : decode cX11_nodesForAppend 1 = .ok (.iload_n 1, 1) := by decide +kernel
theorem dX11_nodesForAppend_2 : decode cX11_nodesForAppend 2 = .ok (.invokevirtual 168, 3) := by decide +kernel
theorem dX11_nodesForAppend_5 : decode cX11_nodesForAppend 5 = .ok (.aload_n 0, 1) := by decide +kernel
theorem dX11_nodesForAppend_6 : decode cX11_nodesForAppend 6 = .ok (.getfield 10, 3) := by decide +kernel
theorem dX11_nodesForAppend_9 : decode cX11_nodesForAppend 9 = .ok (.getfield 137, 3) := by decide +kernel
theorem dX11_nodesForAppend_12 : decode cX11_nodesForAppend 12 = .ok (.iload_n 1, 1) := by decide +kernel
theorem dX11_nodesForAppend_13 : decode cX11_nodesForAppend 13 = .ok (.invokevirtual 171, 3) := by decide +kernel
theorem dX11_nodesForAppend_16 : decode cX11_nodesForAppend 16 = .ok (.iconst 1, 1) := by decide +kernel
theorem dX11_nodesForAppend_17 : decode cX11_nodesForAppend 17 = .ok (.iadd, 1) := by decide +kernel
theorem dX11_nodesForAppend_18 : decode cX11_nodesForAppend 18 = .ok (.istore_n 2, 1) := by decide +kernel
theorem dX11_nodesForAppend_19 : decode cX11_nodesForAppend 19 = .ok (.iload_n 2, 1) := by decide +kernel
theorem dX11_nodesForAppend_20 : decode cX11_nodesForAppend 20 = .ok (.bipush 64, 2) := by decide +kernel
theorem dX11_nodesForAppend_22 : decode cX11_nodesForAppend 22 = .ok (.if_icmp .le 7, 3) := by decide +kernel
theorem dX11_nodesForAppend_25 : decode cX11_nodesForAppend 25 = .ok (.iconst (-1), 1) := by decide +kernel
theorem dX11_nodesForAppend_26 : decode cX11_nodesForAppend 26 = .ok (.goto 7, 3) := by decide +kernel
theorem dX11_nodesForAppend_29 : decode cX11_nodesForAppend 29 = .ok (.iload_n 2, 1) := by decide +kernel
theorem dX11_nodesForAppend_30 : decode cX11_nodesForAppend 30 = .ok (.invokestatic 260, 3) := by decide +kernel
theorem dX11_nodesForAppend_33 : decode cX11_nodesForAppend 33 = .ok (.ireturn, 1) := by decide +kernel
theorem dX11_garbageIfReleased_0 : decode cX11_garbageIfReleased 0 = .ok (.aload_n 0, 1) := by decide +kernel
theorem dX11_garbageIfReleased_1 : decode cX11_garbageIfReleased 1 = .ok (.iload_n 1, 1) := by decide +kernel
theorem dX11_garbageIfReleased_2 : decode cX11_garbageIfReleased 2 = .ok (.invokevirtual 168, 3) := by decide +kernel
theorem dX11_garbageIfReleased_5 : decode cX11_garbageIfReleased 5 = .ok (.aload_n 0, 1) := by decide +kernel
theorem dX11_garbageIfReleased_6 : decode cX11_garbageIfReleased 6 = .ok (.getfield 24, 3) := by decide +kernel
theorem dX11_garbageIfReleased_9 : decode cX11_garbageIfReleased 9 = .ok (.iload_n 1, 1) := by decide +kernel
theorem dX11_garbageIfReleased_10 : decode cX11_garbageIfReleased 10 = .ok (.invokevirtual 226, 3) := by decide +kernel
theorem dX11_garbageIfReleased_13 : decode cX11_garbageIfReleased 13 = .ok (.ireturn, 1) := by decide +kernel
theorem dX11_isConsistent_0 : decode cX11_isConsistent 0 = .ok (.aload_n 0, 1) := by decide +kernel
theorem dX11_isConsistent_1 : decode cX11_isConsistent 1 = .ok (.getfield 33, 3) := by decide +kernel
theorem dX11_isConsistent_4 : decode cX11_isConsistent 4 = .ok (.invokevirtual 272, 3) := by decide +kernel
theorem dX11_isConsistent_7 : decode cX11_isConsistent 7 = .ok (.ireturn, 1) := by decide +kernel
theorem dX11_set_0 : decode cX11_set 0 = .ok (.aload_n 0, 1) := by decide +kernel
theorem dX11_set_1 : decode cX11_set 1 = .ok (.aload_n 0, 1) := by decide +kernel
theorem dX11_set_2 : decode cX11_set 2 = .ok (.getfield 10, 3) := by decide +kernel
theorem dX11_set_5 : decode cX11_set 5 = .ok (.getfield 137, 3) := by decide +kernel
theorem dX11_set_8 : decode cX11_set 8 = .ok (.iload_n 1, 1) := by decide +kernel
theorem dX11_set_9 : decode cX11_set 9 = .ok (.iload_n 2, 1) := by decide +kernel
theorem dX11_set_10 : decode cX11_set 10 = .ok (.iload_n 3, 1) := by decide +kernel
theorem dX11_set_11 : decode cX11_set 11 = .ok (.invokevirtual 275, 3) := by decide +kernel
theorem dX11_set_14 : decode cX11_set 14 = .ok (.invokevirtual 278, 3) := by decide +kernel
theorem dX11_set_17 : decode cX11_set 17 = .ok (.aload_n 0, 1) := by decide +kernel
theorem dX11_set_18 : decode cX11_set 18 = .ok (.getfield 10, 3) := by decide +kernel
theorem dX11_set_21 : decode cX11_set 21 = .ok (.iload_n 1, 1) := by decide +kernel
theorem dX11_set_22 : decode cX11_set 22 = .ok (.iload_n 2, 1) := by decide +kernel
theorem dX11_set_23 : decode cX11_set 23 = .ok (.iload_n 3, 1) := by decide +kernel
theorem dX11_set_24 : decode cX11_set 24 = .ok (.invokevirtual 281, 3) := by decide +kernel
theorem dX11_set_27 : decode cX11_set 27 = .ok (.ireturn, 1) := by decide +kernel
theorem dX11_append_0 : decode cX11_append 0 = .ok (.aload_n 0, 1) := by decide +kernel
theorem dX11_append_1 : decode cX11_append 1 = .ok (.aload_n 0, 1) := by decide +kernel
theorem dX11_append_2 : decode cX11_append 2 = .ok (.getfield 10, 3) := by decide +kernel
theorem dX11_append_5 : decode cX11_append 5 = .ok (.getfield 137, 3) := by decide +kernel
theorem dX11_append_8 : decode cX11_append 8 = .ok (.iload_n 1, 1) := by decide +kernel
theorem dX11_append_9 : decode cX11_append 9 = .ok (.iload_n 2, 1) := by decide +kernel
theorem dX11_append_10 : decode cX11_append 10 = .ok (.invokevirtual 284, 3) := by decide +kernel
theorem dX11_append_13 : decode cX11_append 13 = .ok (.invokevirtual 278, 3) := by decide +kernel
theorem dX11_append_16 : decode cX11_append 16 = .ok (.aload_n 0, 1) := by decide +kernel
theorem dX11_append_17 : decode cX11_append 17 = .ok (.getfield 10, 3) := by decide +kernel
theorem dX11_append_20 : decode cX11_append 20 = .ok (.iload_n 1, 1) := by decide +kernel
theorem dX11_append_21 : decode cX11_append 21 = .ok (.iload_n 2, 1) := by decide +kernel
theorem dX11_append_22 : decode cX11_append 22 = .ok (.invokevirtual 287, 3) := by decide +kernel
theorem dX11_append_25 : decode cX11_append 25 = .ok (.ireturn, 1) := by decide +kernel
theorem dX11_truncate_0 : decode cX11_truncate 0 = .ok (.aload_n 0, 1) := by decide +kernel
theorem dX11_truncate_1 : decode cX11_truncate 1 = .ok (.aload_n 0, 1) := by decide +kernel
theorem dX11_truncate_2 : decode cX11_truncate 2 = .ok (.getfield 10, 3) := by decide +kernel
theorem dX11_truncate_5 : decode cX11_truncate 5 = .ok (.getfield 137, 3) := by decide +kernel
theorem dX11_truncate_8 : decode cX11_truncate 8 = .ok (.iload_n 1, 1) := by decide +kernel
theorem dX11_truncate_9 : decode cX11_truncate 9 = .ok (.iload_n 2, 1) := by decide +kernel
theorem dX11_truncate_10 : decode cX11_truncate 10 = .ok (.invokevirtual 290, 3) := by decide +kernel
theorem dX11_truncate_13 : decode cX11_truncate 13 = .ok (.invokevirtual 278, 3) := by decide +kernel
theorem dX11_truncate_16 : decode cX11_truncate 16 = .ok (.aload_n 0, 1) := by decide +kernel
theorem dX11_truncate_17 : decode cX11_truncate 17 = .ok (.getfield 10, 3) := by decide +kernel
theorem dX11_truncate_20 : decode cX11_truncate 20 = .ok (.iload_n 1, 1) := by decide +kernel
theorem dX11_truncate_21 : decode cX11_truncate 21 = .ok (.iload_n 2, 1) := by decide +kernel
theorem dX11_truncate_22 : decode cX11_truncate 22 = .ok (.invokevirtual 293, 3) := by decide +kernel
theorem dX11_truncate_25 : decode cX11_truncate 25 = .ok (.ireturn, 1) := by decide +kernel
theorem dX11_release_0 : decode cX11_release 0 = .ok (.aload_n 0, 1) := by decide +kernel
theorem dX11_release_1 : decode cX11_release 1 = .ok (.aload_n 0, 1) := by decide +kernel
theorem dX11_release_2 : decode cX11_release 2 = .ok (.getfield 10, 3) := by decide +kernel
theorem dX11_release_5 : decode cX11_release 5 = .ok (.getfield 137, 3) := by decide +kernel
theorem dX11_release_8 : decode cX11_release 8 = .ok (.iload_n 1, 1) := by decide +kernel
theorem dX11_release_9 : decode cX11_release 9 = .ok (.invokevirtual 296, 3) := by decide +kernel
theorem dX11_release_12 : decode cX11_release 12 = .ok (.invokevirtual 278, 3) := by decide +kernel
theorem dX11_release_15 : decode cX11_release 15 = .ok (.aload_n 0, 1) := by decide +kernel
theorem dX11_release_16 : decode cX11_release 16 = .ok (.getfield 10, 3) := by decide +kernel
theorem dX11_release_19 : decode cX11_release 19 = .ok (.getfield 137, 3) := by decide +kernel
theorem dX11_release_22 : decode cX11_release 22 = .ok (.iload_n 1, 1) := by decide +kernel
theorem dX11_release_23 : decode cX11_release 23 = .ok (.invokevirtual 299, 3) := by decide +kernel
theorem dX11_release_26 : decode cX11_release 26 = .ok (.aload_n 0, 1) := by decide +kernel
theorem dX11_release_27 : decode cX11_release 27 = .ok (.getfield 24, 3) := by decide +kernel
theorem dX11_release_30 : decode cX11_release 30 = .ok (.invokevirtual 210, 3) := by decide +kernel
theorem dX11_release_33 : decode cX11_release 33 = .ok (.ireturn, 1) := by decide +kernel
theorem dX11_collect_0 : decode cX11_collect 0 = .ok (.aload_n 0, 1) := by decide +kernel
theorem dX11_collect_1 : decode cX11_collect 1 = .ok (.iconst 0, 1) := by decide +kernel
theorem dX11_collect_2 : decode cX11_collect 2 = .ok (.invokevirtual 278, 3) := by decide +kernel
theorem dX11_collect_5 : decode cX11_collect 5 = .ok (.aload_n 0, 1) := by decide +kernel
theorem dX11_collect_6 : decode cX11_collect 6 = .ok (.getfield 24, 3) := by decide +kernel
theorem dX11_collect_9 : decode cX11_collect 9 = .ok (.invokevirtual 302, 3) := by decide +kernel
theorem dX11_collect_12 : decode cX11_collect 12 = .ok (.ireturn, 1) := by decide +kernel
theorem dX11_refuse_0 : decode cX11_refuse 0 = .ok (.iload_n 0, 1) := by decide +kernel
theorem dX11_refuse_1 : decode cX11_refuse 1 = .ok (.tableswitch 60 1 3 #[27, 38, 49], 27) := by decide +kernel
theorem dX11_refuse_28 : decode cX11_refuse 28 = .ok (.new 335, 3) := by decide +kernel
theorem dX11_refuse_31 : decode cX11_refuse 31 = .ok (.dup, 1) := by decide +kernel
theorem dX11_refuse_32 : decode cX11_refuse 32 = .ok (.ldc_w 337, 3) := by decide +kernel
theorem dX11_refuse_35 : decode cX11_refuse 35 = .ok (.invokespecial 339, 3) := by decide +kernel
theorem dX11_refuse_38 : decode cX11_refuse 38 = .ok (.athrow, 1) := by decide +kernel
theorem dX11_refuse_39 : decode cX11_refuse 39 = .ok (.new 340, 3) := by decide +kernel
theorem dX11_refuse_42 : decode cX11_refuse 42 = .ok (.dup, 1) := by decide +kernel
theorem dX11_refuse_43 : decode cX11_refuse 43 = .ok (.ldc_w 342, 3) := by decide +kernel
theorem dX11_refuse_46 : decode cX11_refuse 46 = .ok (.invokespecial 344, 3) := by decide +kernel
theorem dX11_refuse_49 : decode cX11_refuse 49 = .ok (.athrow, 1) := by decide +kernel
theorem dX11_refuse_50 : decode cX11_refuse 50 = .ok (.new 345, 3) := by decide +kernel
theorem dX11_refuse_53 : decode cX11_refuse 53 = .ok (.dup, 1) := by decide +kernel
theorem dX11_refuse_54 : decode cX11_refuse 54 = .ok (.ldc_w 347, 3) := by decide +kernel
theorem dX11_refuse_57 : decode cX11_refuse 57 = .ok (.invokespecial 349, 3) := by decide +kernel
theorem dX11_refuse_60 : decode cX11_refuse 60 = .ok (.athrow, 1) := by decide +kernel
theorem dX11_refuse_61 : decode cX11_refuse 61 = .ok (.return_, 1) := by decide +kernel
theorem dX11_beginChange_0 : decode cX11_beginChange 0 = .ok (.iload_n 1, 1) := by decide +kernel
theorem dX11_beginChange_1 : decode cX11_beginChange 1 = .ok (.invokestatic 183, 3) := by decide +kernel
theorem dX11_beginChange_4 : decode cX11_beginChange 4 = .ok (.aload_n 0, 1) := by decide +kernel
theorem dX11_beginChange_5 : decode cX11_beginChange 5 = .ok (.getfield 40, 3) := by decide +kernel
theorem dX11_beginChange_8 : decode cX11_beginChange 8 = .ok (.aload_n 0, 1) := by decide +kernel
theorem dX11_beginChange_9 : decode cX11_beginChange 9 = .ok (.getfield 10, 3) := by decide +kernel
theorem dX11_beginChange_12 : decode cX11_beginChange 12 = .ok (.invokevirtual 120, 3) := by decide +kernel
theorem dX11_beginChange_15 : decode cX11_beginChange 15 = .ok (.return_, 1) := by decide +kernel
theorem dX11_requireVersion_0 : decode cX11_requireVersion 0 = .ok (.aload_n 0, 1) := by decide +kernel
theorem dX11_requireVersion_1 : decode cX11_requireVersion 1 = .ok (.getfield 10, 3) := by decide +kernel
theorem dX11_requireVersion_4 : decode cX11_requireVersion 4 = .ok (.getfield 137, 3) := by decide +kernel
theorem dX11_requireVersion_7 : decode cX11_requireVersion 7 = .ok (.iload_n 1, 1) := by decide +kernel
theorem dX11_requireVersion_8 : decode cX11_requireVersion 8 = .ok (.invokevirtual 350, 3) := by decide +kernel
theorem dX11_requireVersion_11 : decode cX11_requireVersion 11 = .ok (.ifCond .eq 7, 3) := by decide +kernel
theorem dX11_requireVersion_14 : decode cX11_requireVersion 14 = .ok (.iconst 0, 1) := by decide +kernel
theorem dX11_requireVersion_15 : decode cX11_requireVersion 15 = .ok (.goto 4, 3) := by decide +kernel
theorem dX11_requireVersion_18 : decode cX11_requireVersion 18 = .ok (.iconst 1, 1) := by decide +kernel
theorem dX11_requireVersion_19 : decode cX11_requireVersion 19 = .ok (.invokestatic 183, 3) := by decide +kernel
theorem dX11_requireVersion_22 : decode cX11_requireVersion 22 = .ok (.return_, 1) := by decide +kernel
theorem dX11_requireReadable_0 : decode cX11_requireReadable 0 = .ok (.aload_n 0, 1) := by decide +kernel
theorem dX11_requireReadable_1 : decode cX11_requireReadable 1 = .ok (.getfield 10, 3) := by decide +kernel
theorem dX11_requireReadable_4 : decode cX11_requireReadable 4 = .ok (.getfield 137, 3) := by decide +kernel
theorem dX11_requireReadable_7 : decode cX11_requireReadable 7 = .ok (.iload_n 1, 1) := by decide +kernel
theorem dX11_requireReadable_8 : decode cX11_requireReadable 8 = .ok (.invokevirtual 296, 3) := by decide +kernel
theorem dX11_requireReadable_11 : decode cX11_requireReadable 11 = .ok (.invokestatic 183, 3) := by decide +kernel
theorem dX11_requireReadable_14 : decode cX11_requireReadable 14 = .ok (.return_, 1) := by decide +kernel
theorem dX11_requireNode_0 : decode cX11_requireNode 0 = .ok (.aload_n 0, 1) := by decide +kernel
theorem dX11_requireNode_1 : decode cX11_requireNode 1 = .ok (.getfield 10, 3) := by decide +kernel
theorem dX11_requireNode_4 : decode cX11_requireNode 4 = .ok (.getfield 198, 3) := by decide +kernel
theorem dX11_requireNode_7 : decode cX11_requireNode 7 = .ok (.iload_n 1, 1) := by decide +kernel
theorem dX11_requireNode_8 : decode cX11_requireNode 8 = .ok (.invokevirtual 356, 3) := by decide +kernel
theorem dX11_requireNode_11 : decode cX11_requireNode 11 = .ok (.ifCond .eq 7, 3) := by decide +kernel
theorem dX11_requireNode_14 : decode cX11_requireNode 14 = .ok (.iconst 0, 1) := by decide +kernel
theorem dX11_requireNode_15 : decode cX11_requireNode 15 = .ok (.goto 4, 3) := by decide +kernel
theorem dX11_requireNode_18 : decode cX11_requireNode 18 = .ok (.iconst 1, 1) := by decide +kernel
theorem dX11_requireNode_19 : decode cX11_requireNode 19 = .ok (.invokestatic 183, 3) := by decide +kernel
theorem dX11_requireNode_22 : decode cX11_requireNode 22 = .ok (.return_, 1) := by decide +kernel
theorem dX11_capacity_0 : decode cX11_capacity 0 = .ok (.iconst 1, 1) := by decide +kernel
theorem dX11_capacity_1 : decode cX11_capacity 1 = .ok (.iconst 2, 1) := by decide +kernel
theorem dX11_capacity_2 : decode cX11_capacity 2 = .ok (.iload_n 0, 1) := by decide +kernel
theorem dX11_capacity_3 : decode cX11_capacity 3 = .ok (.imul, 1) := by decide +kernel
theorem dX11_capacity_4 : decode cX11_capacity 4 = .ok (.ishl, 1) := by decide +kernel
theorem dX11_capacity_5 : decode cX11_capacity 5 = .ok (.ireturn, 1) := by decide +kernel
theorem dX11_positionIn_0 : decode cX11_positionIn 0 = .ok (.iload_n 1, 1) := by decide +kernel
theorem dX11_positionIn_1 : decode cX11_positionIn 1 = .ok (.iconst 2, 1) := by decide +kernel
theorem dX11_positionIn_2 : decode cX11_positionIn 2 = .ok (.iload_n 0, 1) := by decide +kernel
theorem dX11_positionIn_3 : decode cX11_positionIn 3 = .ok (.iconst 1, 1) := by decide +kernel
theorem dX11_positionIn_4 : decode cX11_positionIn 4 = .ok (.isub, 1) := by decide +kernel
theorem dX11_positionIn_5 : decode cX11_positionIn 5 = .ok (.imul, 1) := by decide +kernel
theorem dX11_positionIn_6 : decode cX11_positionIn 6 = .ok (.ishr, 1) := by decide +kernel
theorem dX11_positionIn_7 : decode cX11_positionIn 7 = .ok (.iconst 3, 1) := by decide +kernel
theorem dX11_positionIn_8 : decode cX11_positionIn 8 = .ok (.iand, 1) := by decide +kernel
theorem dX11_positionIn_9 : decode cX11_positionIn 9 = .ok (.ireturn, 1) := by decide +kernel
theorem dX11_heightFor_0 : decode cX11_heightFor 0 = .ok (.iload_n 0, 1) := by decide +kernel
theorem dX11_heightFor_1 : decode cX11_heightFor 1 = .ok (.ifCond .gt 5, 3) := by decide +kernel
theorem dX11_heightFor_4 : decode cX11_heightFor 4 = .ok (.iconst 0, 1) := by decide +kernel
theorem dX11_heightFor_5 : decode cX11_heightFor 5 = .ok (.ireturn, 1) := by decide +kernel
theorem dX11_heightFor_6 : decode cX11_heightFor 6 = .ok (.iload_n 0, 1) := by decide +kernel
theorem dX11_heightFor_7 : decode cX11_heightFor 7 = .ok (.iconst 1, 1) := by decide +kernel
theorem dX11_heightFor_8 : decode cX11_heightFor 8 = .ok (.invokestatic 359, 3) := by decide +kernel
theorem dX11_heightFor_11 : decode cX11_heightFor 11 = .ok (.if_icmp .gt 5, 3) := by decide +kernel
theorem dX11_heightFor_14 : decode cX11_heightFor 14 = .ok (.iconst 1, 1) := by decide +kernel
theorem dX11_heightFor_15 : decode cX11_heightFor 15 = .ok (.ireturn, 1) := by decide +kernel
theorem dX11_heightFor_16 : decode cX11_heightFor 16 = .ok (.iload_n 0, 1) := by decide +kernel
theorem dX11_heightFor_17 : decode cX11_heightFor 17 = .ok (.iconst 2, 1) := by decide +kernel
theorem dX11_heightFor_18 : decode cX11_heightFor 18 = .ok (.invokestatic 359, 3) := by decide +kernel
theorem dX11_heightFor_21 : decode cX11_heightFor 21 = .ok (.if_icmp .gt 7, 3) := by decide +kernel
theorem dX11_heightFor_24 : decode cX11_heightFor 24 = .ok (.iconst 2, 1) := by decide +kernel
theorem dX11_heightFor_25 : decode cX11_heightFor 25 = .ok (.goto 4, 3) := by decide +kernel
theorem dX11_heightFor_28 : decode cX11_heightFor 28 = .ok (.iconst 3, 1) := by decide +kernel
theorem dX11_heightFor_29 : decode cX11_heightFor 29 = .ok (.ireturn, 1) := by decide +kernel
theorem dX11_isElementValue_0 : decode cX11_isElementValue 0 = .ok (.iload_n 0, 1) := by decide +kernel
theorem dX11_isElementValue_1 : decode cX11_isElementValue 1 = .ok (.sipush (-999), 3) := by decide +kernel
theorem dX11_isElementValue_4 : decode cX11_isElementValue 4 = .ok (.if_icmp .lt 14, 3) := by decide +kernel
theorem dX11_isElementValue_7 : decode cX11_isElementValue 7 = .ok (.iload_n 0, 1) := by decide +kernel
theorem dX11_isElementValue_8 : decode cX11_isElementValue 8 = .ok (.sipush 999, 3) := by decide +kernel
theorem dX11_isElementValue_11 : decode cX11_isElementValue 11 = .ok (.if_icmp .gt 7, 3) := by decide +kernel
theorem dX11_isElementValue_14 : decode cX11_isElementValue 14 = .ok (.iconst 1, 1) := by decide +kernel
theorem dX11_isElementValue_15 : decode cX11_isElementValue 15 = .ok (.goto 4, 3) := by decide +kernel
theorem dX11_isElementValue_18 : decode cX11_isElementValue 18 = .ok (.iconst 0, 1) := by decide +kernel
theorem dX11_isElementValue_19 : decode cX11_isElementValue 19 = .ok (.ireturn, 1) := by decide +kernel
theorem dX11_at_0 : decode cX11_at 0 = .ok (.iload_n 1, 1) := by decide +kernel
theorem dX11_at_1 : decode cX11_at 1 = .ok (.ifCond .lt 15, 3) := by decide +kernel
theorem dX11_at_4 : decode cX11_at 4 = .ok (.iload_n 1, 1) := by decide +kernel
theorem dX11_at_5 : decode cX11_at 5 = .ok (.aload_n 0, 1) := by decide +kernel
theorem dX11_at_6 : decode cX11_at 6 = .ok (.arraylength, 1) := by decide +kernel
theorem dX11_at_7 : decode cX11_at 7 = .ok (.if_icmp .ge 9, 3) := by decide +kernel
theorem dX11_at_10 : decode cX11_at 10 = .ok (.aload_n 0, 1) := by decide +kernel
theorem dX11_at_11 : decode cX11_at 11 = .ok (.iload_n 1, 1) := by decide +kernel
theorem dX11_at_12 : decode cX11_at 12 = .ok (.iaload, 1) := by decide +kernel
theorem dX11_at_13 : decode cX11_at 13 = .ok (.goto 4, 3) := by decide +kernel
theorem dX11_at_16 : decode cX11_at 16 = .ok (.iconst (-1), 1) := by decide +kernel
theorem dX11_at_17 : decode cX11_at 17 = .ok (.ireturn, 1) := by decide +kernel
theorem dX11_put_0 : decode cX11_put 0 = .ok (.iload_n 1, 1) := by decide +kernel
theorem dX11_put_1 : decode cX11_put 1 = .ok (.ifCond .lt 13, 3) := by decide +kernel
theorem dX11_put_4 : decode cX11_put 4 = .ok (.iload_n 1, 1) := by decide +kernel
theorem dX11_put_5 : decode cX11_put 5 = .ok (.aload_n 0, 1) := by decide +kernel
theorem dX11_put_6 : decode cX11_put 6 = .ok (.arraylength, 1) := by decide +kernel
theorem dX11_put_7 : decode cX11_put 7 = .ok (.if_icmp .ge 7, 3) := by decide +kernel
theorem dX11_put_10 : decode cX11_put 10 = .ok (.aload_n 0, 1) := by decide +kernel
theorem dX11_put_11 : decode cX11_put 11 = .ok (.iload_n 1, 1) := by decide +kernel
theorem dX11_put_12 : decode cX11_put 12 = .ok (.iload_n 2, 1) := by decide +kernel
theorem dX11_put_13 : decode cX11_put 13 = .ok (.iastore, 1) := by decide +kernel
theorem dX11_put_14 : decode cX11_put 14 = .ok (.return_, 1) := by decide +kernel
theorem dX11_flagAt_0 : decode cX11_flagAt 0 = .ok (.iload_n 1, 1) := by decide +kernel
theorem dX11_flagAt_1 : decode cX11_flagAt 1 = .ok (.ifCond .lt 19, 3) := by decide +kernel
theorem dX11_flagAt_4 : decode cX11_flagAt 4 = .ok (.iload_n 1, 1) := by decide +kernel
theorem dX11_flagAt_5 : decode cX11_flagAt 5 = .ok (.aload_n 0, 1) := by decide +kernel
theorem dX11_flagAt_6 : decode cX11_flagAt 6 = .ok (.arraylength, 1) := by decide +kernel
theorem dX11_flagAt_7 : decode cX11_flagAt 7 = .ok (.if_icmp .ge 13, 3) := by decide +kernel
theorem dX11_flagAt_10 : decode cX11_flagAt 10 = .ok (.aload_n 0, 1) := by decide +kernel
theorem dX11_flagAt_11 : decode cX11_flagAt 11 = .ok (.iload_n 1, 1) := by decide +kernel
theorem dX11_flagAt_12 : decode cX11_flagAt 12 = .ok (.baload, 1) := by decide +kernel
theorem dX11_flagAt_13 : decode cX11_flagAt 13 = .ok (.ifCond .eq 7, 3) := by decide +kernel
theorem dX11_flagAt_16 : decode cX11_flagAt 16 = .ok (.iconst 1, 1) := by decide +kernel
theorem dX11_flagAt_17 : decode cX11_flagAt 17 = .ok (.goto 4, 3) := by decide +kernel
theorem dX11_flagAt_20 : decode cX11_flagAt 20 = .ok (.iconst 0, 1) := by decide +kernel
theorem dX11_flagAt_21 : decode cX11_flagAt 21 = .ok (.ireturn, 1) := by decide +kernel
theorem dX11_putFlag_0 : decode cX11_putFlag 0 = .ok (.iload_n 1, 1) := by decide +kernel
theorem dX11_putFlag_1 : decode cX11_putFlag 1 = .ok (.ifCond .lt 13, 3) := by decide +kernel
theorem dX11_putFlag_4 : decode cX11_putFlag 4 = .ok (.iload_n 1, 1) := by decide +kernel
theorem dX11_putFlag_5 : decode cX11_putFlag 5 = .ok (.aload_n 0, 1) := by decide +kernel
theorem dX11_putFlag_6 : decode cX11_putFlag 6 = .ok (.arraylength, 1) := by decide +kernel
theorem dX11_putFlag_7 : decode cX11_putFlag 7 = .ok (.if_icmp .ge 7, 3) := by decide +kernel
theorem dX11_putFlag_10 : decode cX11_putFlag 10 = .ok (.aload_n 0, 1) := by decide +kernel
theorem dX11_putFlag_11 : decode cX11_putFlag 11 = .ok (.iload_n 1, 1) := by decide +kernel
theorem dX11_putFlag_12 : decode cX11_putFlag 12 = .ok (.iload_n 2, 1) := by decide +kernel
theorem dX11_putFlag_13 : decode cX11_putFlag 13 = .ok (.bastore, 1) := by decide +kernel
theorem dX11_putFlag_14 : decode cX11_putFlag 14 = .ok (.return_, 1) := by decide +kernel
theorem dX11_copyRow_0 : decode cX11_copyRow 0 = .ok (.iconst 0, 1) := by decide +kernel
theorem dX11_copyRow_1 : decode cX11_copyRow 1 = .ok (.istore_n 2, 1) := by decide +kernel
theorem dX11_copyRow_2 : decode cX11_copyRow 2 = .ok (.iload_n 2, 1) := by decide +kernel
theorem dX11_copyRow_3 : decode cX11_copyRow 3 = .ok (.aload_n 0, 1) := by decide +kernel
theorem dX11_copyRow_4 : decode cX11_copyRow 4 = .ok (.arraylength, 1) := by decide +kernel
theorem dX11_copyRow_5 : decode cX11_copyRow 5 = .ok (.if_icmp .ge 21, 3) := by decide +kernel
theorem dX11_copyRow_8 : decode cX11_copyRow 8 = .ok (.iload_n 2, 1) := by decide +kernel
theorem dX11_copyRow_9 : decode cX11_copyRow 9 = .ok (.aload_n 1, 1) := by decide +kernel
theorem dX11_copyRow_10 : decode cX11_copyRow 10 = .ok (.arraylength, 1) := by decide +kernel
theorem dX11_copyRow_11 : decode cX11_copyRow 11 = .ok (.if_icmp .ge 15, 3) := by decide +kernel
theorem dX11_copyRow_14 : decode cX11_copyRow 14 = .ok (.aload_n 1, 1) := by decide +kernel
theorem dX11_copyRow_15 : decode cX11_copyRow 15 = .ok (.iload_n 2, 1) := by decide +kernel
theorem dX11_copyRow_16 : decode cX11_copyRow 16 = .ok (.aload_n 0, 1) := by decide +kernel
theorem dX11_copyRow_17 : decode cX11_copyRow 17 = .ok (.iload_n 2, 1) := by decide +kernel
theorem dX11_copyRow_18 : decode cX11_copyRow 18 = .ok (.iaload, 1) := by decide +kernel
theorem dX11_copyRow_19 : decode cX11_copyRow 19 = .ok (.iastore, 1) := by decide +kernel
theorem dX11_copyRow_20 : decode cX11_copyRow 20 = .ok (.iinc 2 1, 3) := by decide +kernel
theorem dX11_copyRow_23 : decode cX11_copyRow 23 = .ok (.goto (-21), 3) := by decide +kernel
theorem dX11_copyRow_26 : decode cX11_copyRow 26 = .ok (.return_, 1) := by decide +kernel
theorem dX11_copyFlags_0 : decode cX11_copyFlags 0 = .ok (.iconst 0, 1) := by decide +kernel
theorem dX11_copyFlags_1 : decode cX11_copyFlags 1 = .ok (.istore 5, 2) := by decide +kernel
theorem dX11_copyFlags_3 : decode cX11_copyFlags 3 = .ok (.iload 5, 2) := by decide +kernel
theorem dX11_copyFlags_5 : decode cX11_copyFlags 5 = .ok (.iload 4, 2) := by decide +kernel
theorem dX11_copyFlags_7 : decode cX11_copyFlags 7 = .ok (.if_icmp .ge 25, 3) := by decide +kernel
theorem dX11_copyFlags_10 : decode cX11_copyFlags 10 = .ok (.aload_n 2, 1) := by decide +kernel
theorem dX11_copyFlags_11 : decode cX11_copyFlags 11 = .ok (.iload_n 3, 1) := by decide +kernel
theorem dX11_copyFlags_12 : decode cX11_copyFlags 12 = .ok (.iload 5, 2) := by decide +kernel
theorem dX11_copyFlags_14 : decode cX11_copyFlags 14 = .ok (.iadd, 1) := by decide +kernel
theorem dX11_copyFlags_15 : decode cX11_copyFlags 15 = .ok (.aload_n 0, 1) := by decide +kernel
theorem dX11_copyFlags_16 : decode cX11_copyFlags 16 = .ok (.iload_n 1, 1) := by decide +kernel
theorem dX11_copyFlags_17 : decode cX11_copyFlags 17 = .ok (.iload 5, 2) := by decide +kernel
theorem dX11_copyFlags_19 : decode cX11_copyFlags 19 = .ok (.iadd, 1) := by decide +kernel
theorem dX11_copyFlags_20 : decode cX11_copyFlags 20 = .ok (.invokestatic 362, 3) := by decide +kernel
theorem dX11_copyFlags_23 : decode cX11_copyFlags 23 = .ok (.invokestatic 366, 3) := by decide +kernel
theorem dX11_copyFlags_26 : decode cX11_copyFlags 26 = .ok (.iinc 5 1, 3) := by decide +kernel
theorem dX11_copyFlags_29 : decode cX11_copyFlags 29 = .ok (.goto (-26), 3) := by decide +kernel
theorem dX11_copyFlags_32 : decode cX11_copyFlags 32 = .ok (.return_, 1) := by decide +kernel
theorem dJ5_init_a7421_0 : decode cJ5_init_a7421 0 = .ok (.aload_n 0, 1) := by decide +kernel
theorem dJ5_init_a7421_1 : decode cJ5_init_a7421 1 = .ok (.invokespecial 3, 3) := by decide +kernel
theorem dJ5_init_a7421_4 : decode cJ5_init_a7421 4 = .ok (.aload_n 1, 1) := by decide +kernel
theorem dJ5_init_a7421_5 : decode cJ5_init_a7421 5 = .ok (.invokevirtual 32, 3) := by decide +kernel
theorem dJ5_init_a7421_8 : decode cJ5_init_a7421 8 = .ok (.istore_n 2, 1) := by decide +kernel
theorem dJ5_init_a7421_9 : decode cJ5_init_a7421 9 = .ok (.iload_n 2, 1) := by decide +kernel
theorem dJ5_init_a7421_10 : decode cJ5_init_a7421 10 = .ok (.ldc 38, 2) := by decide +kernel
theorem dJ5_init_a7421_12 : decode cJ5_init_a7421 12 = .ok (.if_icmp .ge 10, 3) := by decide +kernel
theorem dJ5_init_a7421_15 : decode cJ5_init_a7421 15 = .ok (.iload_n 2, 1) := by decide +kernel
theorem dJ5_init_a7421_16 : decode cJ5_init_a7421 16 = .ok (.bipush 16, 2) := by decide +kernel
theorem dJ5_init_a7421_18 : decode cJ5_init_a7421 18 = .ok (.iadd, 1) := by decide +kernel
theorem dJ5_init_a7421_19 : decode cJ5_init_a7421 19 = .ok (.goto 5, 3) := by decide +kernel
theorem dJ5_init_a7421_22 : decode cJ5_init_a7421 22 = .ok (.ldc 39, 2) := by decide +kernel
theorem dJ5_init_a7421_24 : decode cJ5_init_a7421 24 = .ok (.istore_n 3, 1) := by decide +kernel
theorem dJ5_init_a7421_25 : decode cJ5_init_a7421 25 = .ok (.aload_n 1, 1) := by decide +kernel
theorem dJ5_init_a7421_26 : decode cJ5_init_a7421 26 = .ok (.invokevirtual 40, 3) := by decide +kernel
theorem dJ5_init_a7421_29 : decode cJ5_init_a7421 29 = .ok (.istore 4, 2) := by decide +kernel
theorem dJ5_init_a7421_31 : decode cJ5_init_a7421 31 = .ok (.aload_n 0, 1) := by decide +kernel
theorem dJ5_init_a7421_32 : decode cJ5_init_a7421 32 = .ok (.iload 4, 2) := by decide +kernel
theorem dJ5_init_a7421_34 : decode cJ5_init_a7421 34 = .ok (.putfield 22, 3) := by decide +kernel
theorem dJ5_init_a7421_37 : decode cJ5_init_a7421 37 = .ok (.aload_n 0, 1) := by decide +kernel
theorem dJ5_init_a7421_38 : decode cJ5_init_a7421 38 = .ok (.iload 4, 2) := by decide +kernel
theorem dJ5_init_a7421_40 : decode cJ5_init_a7421 40 = .ok (.ifCond .ne 9, 3) := by decide +kernel
theorem dJ5_init_a7421_43 : decode cJ5_init_a7421 43 = .ok (.iload_n 3, 1) := by decide +kernel
theorem dJ5_init_a7421_44 : decode cJ5_init_a7421 44 = .ok (.newarray .byte, 2) := by decide +kernel
theorem dJ5_init_a7421_46 : decode cJ5_init_a7421 46 = .ok (.goto 7, 3) := by decide +kernel
theorem dJ5_init_a7421_49 : decode cJ5_init_a7421 49 = .ok (.iload_n 3, 1) := by decide +kernel
theorem dJ5_init_a7421_50 : decode cJ5_init_a7421 50 = .ok (.invokestatic 26, 3) := by decide +kernel
theorem dJ5_init_a7421_53 : decode cJ5_init_a7421 53 = .ok (.putfield 15, 3) := by decide +kernel
theorem dJ5_init_a7421_56 : decode cJ5_init_a7421 56 = .ok (.aload_n 0, 1) := by decide +kernel
theorem dJ5_init_a7421_57 : decode cJ5_init_a7421 57 = .ok (.aload_n 1, 1) := by decide +kernel
theorem dJ5_init_a7421_58 : decode cJ5_init_a7421 58 = .ok (.invokevirtual 43, 3) := by decide +kernel
theorem dJ5_init_a7421_61 : decode cJ5_init_a7421 61 = .ok (.pop, 1) := by decide +kernel
theorem dJ5_init_a7421_62 : decode cJ5_init_a7421 62 = .ok (.return_, 1) := by decide +kernel
theorem dJ5_length_8abf5_0 : decode cJ5_length_8abf5 0 = .ok (.aload_n 0, 1) := by decide +kernel
theorem dJ5_length_8abf5_1 : decode cJ5_length_8abf5 1 = .ok (.getfield 79, 3) := by decide +kernel
theorem dJ5_length_8abf5_4 : decode cJ5_length_8abf5 4 = .ok (.ireturn, 1) := by decide +kernel
theorem dJ5_ensureCapacityInternal_d00df_0 : decode cJ5_ensureCapacityInternal_d00df 0 = .ok (.aload_n 0, 1) := by decide +kernel
theorem dJ5_ensureCapacityInternal_d00df_1 : decode cJ5_ensureCapacityInternal_d00df 1 = .ok (.getfield 15, 3) := by decide +kernel
theorem dJ5_ensureCapacityInternal_d00df_4 : decode cJ5_ensureCapacityInternal_d00df 4 = .ok (.arraylength, 1) := by decide +kernel
theorem dJ5_ensureCapacityInternal_d00df_5 : decode cJ5_ensureCapacityInternal_d00df 5 = .ok (.aload_n 0, 1) := by decide +kernel
theorem dJ5_ensureCapacityInternal_d00df_6 : decode cJ5_ensureCapacityInternal_d00df 6 = .ok (.getfield 22, 3) := by decide +kernel
theorem dJ5_ensureCapacityInternal_d00df_9 : decode cJ5_ensureCapacityInternal_d00df 9 = .ok (.ishr, 1) := by decide +kernel
theorem dJ5_ensureCapacityInternal_d00df_10 : decode cJ5_ensureCapacityInternal_d00df 10 = .ok (.istore_n 2, 1) := by decide +kernel
theorem dJ5_ensureCapacityInternal_d00df_11 : decode cJ5_ensureCapacityInternal_d00df 11 = .ok (.iload_n 1, 1) := by decide +kernel
theorem dJ5_ensureCapacityInternal_d00df_12 : decode cJ5_ensureCapacityInternal_d00df 12 = .ok (.iload_n 2, 1) := by decide +kernel
theorem dJ5_ensureCapacityInternal_d00df_13 : decode cJ5_ensureCapacityInternal_d00df 13 = .ok (.isub, 1) := by decide +kernel
theorem dJ5_ensureCapacityInternal_d00df_14 : decode cJ5_ensureCapacityInternal_d00df 14 = .ok (.ifCond .le 24, 3) := by decide +kernel
theorem dJ5_ensureCapacityInternal_d00df_17 : decode cJ5_ensureCapacityInternal_d00df 17 = .ok (.aload_n 0, 1) := by decide +kernel
theorem dJ5_ensureCapacityInternal_d00df_18 : decode cJ5_ensureCapacityInternal_d00df 18 = .ok (.aload_n 0, 1) := by decide +kernel
theorem dJ5_ensureCapacityInternal_d00df_19 : decode cJ5_ensureCapacityInternal_d00df 19 = .ok (.getfield 15, 3) := by decide +kernel
theorem dJ5_ensureCapacityInternal_d00df_22 : decode cJ5_ensureCapacityInternal_d00df 22 = .ok (.aload_n 0, 1) := by decide +kernel
theorem dJ5_ensureCapacityInternal_d00df_23 : decode cJ5_ensureCapacityInternal_d00df 23 = .ok (.iload_n 1, 1) := by decide +kernel
theorem dJ5_ensureCapacityInternal_d00df_24 : decode cJ5_ensureCapacityInternal_d00df 24 = .ok (.invokevirtual 104, 3) := by decide +kernel
theorem dJ5_ensureCapacityInternal_d00df_27 : decode cJ5_ensureCapacityInternal_d00df 27 = .ok (.aload_n 0, 1) := by decide +kernel
theorem dJ5_ensureCapacityInternal_d00df_28 : decode cJ5_ensureCapacityInternal_d00df 28 = .ok (.getfield 22, 3) := by decide +kernel
theorem dJ5_ensureCapacityInternal_d00df_31 : decode cJ5_ensureCapacityInternal_d00df 31 = .ok (.ishl, 1) := by decide +kernel
theorem dJ5_ensureCapacityInternal_d00df_32 : decode cJ5_ensureCapacityInternal_d00df 32 = .ok (.invokestatic 108, 3) := by decide +kernel
theorem dJ5_ensureCapacityInternal_d00df_35 : decode cJ5_ensureCapacityInternal_d00df 35 = .ok (.putfield 15, 3) := by decide +kernel
theorem dJ5_ensureCapacityInternal_d00df_38 : decode cJ5_ensureCapacityInternal_d00df 38 = .ok (.return_, 1) := by decide +kernel
theorem dJ5_newCapacity_0f7a4_0 : decode cJ5_newCapacity_0f7a4 0 = .ok (.aload_n 0, 1) := by decide +kernel
theorem dJ5_newCapacity_0f7a4_1 : decode cJ5_newCapacity_0f7a4 1 = .ok (.getfield 15, 3) := by decide +kernel
theorem dJ5_newCapacity_0f7a4_4 : decode cJ5_newCapacity_0f7a4 4 = .ok (.arraylength, 1) := by decide +kernel
theorem dJ5_newCapacity_0f7a4_5 : decode cJ5_newCapacity_0f7a4 5 = .ok (.istore_n 2, 1) := by decide +kernel
theorem dJ5_newCapacity_0f7a4_6 : decode cJ5_newCapacity_0f7a4 6 = .ok (.iload_n 1, 1) := by decide +kernel
theorem dJ5_newCapacity_0f7a4_7 : decode cJ5_newCapacity_0f7a4 7 = .ok (.aload_n 0, 1) := by decide +kernel
theorem dJ5_newCapacity_0f7a4_8 : decode cJ5_newCapacity_0f7a4 8 = .ok (.getfield 22, 3) := by decide +kernel
theorem dJ5_newCapacity_0f7a4_11 : decode cJ5_newCapacity_0f7a4 11 = .ok (.ishl, 1) := by decide +kernel
theorem dJ5_newCapacity_0f7a4_12 : decode cJ5_newCapacity_0f7a4 12 = .ok (.istore_n 3, 1) := by decide +kernel
theorem dJ5_newCapacity_0f7a4_13 : decode cJ5_newCapacity_0f7a4 13 = .ok (.iload_n 3, 1) := by decide +kernel
theorem dJ5_newCapacity_0f7a4_14 : decode cJ5_newCapacity_0f7a4 14 = .ok (.iload_n 2, 1) := by decide +kernel
theorem dJ5_newCapacity_0f7a4_15 : decode cJ5_newCapacity_0f7a4 15 = .ok (.isub, 1) := by decide +kernel
theorem dJ5_newCapacity_0f7a4_16 : decode cJ5_newCapacity_0f7a4 16 = .ok (.istore 4, 2) := by decide +kernel
theorem dJ5_newCapacity_0f7a4_18 : decode cJ5_newCapacity_0f7a4 18 = .ok (.iload_n 2, 1) := by decide +kernel
theorem dJ5_newCapacity_0f7a4_19 : decode cJ5_newCapacity_0f7a4 19 = .ok (.iload 4, 2) := by decide +kernel
theorem dJ5_newCapacity_0f7a4_21 : decode cJ5_newCapacity_0f7a4 21 = .ok (.iload_n 2, 1) := by decide +kernel
theorem dJ5_newCapacity_0f7a4_22 : decode cJ5_newCapacity_0f7a4 22 = .ok (.iconst 2, 1) := by decide +kernel
theorem dJ5_newCapacity_0f7a4_23 : decode cJ5_newCapacity_0f7a4 23 = .ok (.aload_n 0, 1) := by decide +kernel
theorem dJ5_newCapacity_0f7a4_24 : decode cJ5_newCapacity_0f7a4 24 = .ok (.getfield 22, 3) := by decide +kernel
theorem dJ5_newCapacity_0f7a4_27 : decode cJ5_newCapacity_0f7a4 27 = .ok (.ishl, 1) := by decide +kernel
theorem dJ5_newCapacity_0f7a4_28 : decode cJ5_newCapacity_0f7a4 28 = .ok (.iadd, 1) := by decide +kernel
theorem dJ5_newCapacity_0f7a4_29 : decode cJ5_newCapacity_0f7a4 29 = .ok (.invokestatic 114, 3) := by decide +kernel
theorem dJ5_newCapacity_0f7a4_32 : decode cJ5_newCapacity_0f7a4 32 = .ok (.istore 5, 2) := by decide +kernel
theorem dJ5_newCapacity_0f7a4_34 : decode cJ5_newCapacity_0f7a4 34 = .ok (.iload 5, 2) := by decide +kernel
theorem dJ5_newCapacity_0f7a4_36 : decode cJ5_newCapacity_0f7a4 36 = .ok (.ldc 39, 2) := by decide +kernel
theorem dJ5_newCapacity_0f7a4_38 : decode cJ5_newCapacity_0f7a4 38 = .ok (.if_icmp .ne 13, 3) := by decide +kernel
theorem dJ5_newCapacity_0f7a4_41 : decode cJ5_newCapacity_0f7a4 41 = .ok (.new 120, 3) := by decide +kernel
theorem dJ5_newCapacity_0f7a4_44 : decode cJ5_newCapacity_0f7a4 44 = .ok (.dup, 1) := by decide +kernel
theorem dJ5_newCapacity_0f7a4_45 : decode cJ5_newCapacity_0f7a4 45 = .ok (.ldc 122, 2) := by decide +kernel
theorem dJ5_newCapacity_0f7a4_47 : decode cJ5_newCapacity_0f7a4 47 = .ok (.invokespecial 124, 3) := by decide +kernel
theorem dJ5_newCapacity_0f7a4_50 : decode cJ5_newCapacity_0f7a4 50 = .ok (.athrow, 1) := by decide +kernel
theorem dJ5_newCapacity_0f7a4_51 : decode cJ5_newCapacity_0f7a4 51 = .ok (.iload 5, 2) := by decide +kernel
theorem dJ5_newCapacity_0f7a4_53 : decode cJ5_newCapacity_0f7a4 53 = .ok (.aload_n 0, 1) := by decide +kernel
theorem dJ5_newCapacity_0f7a4_54 : decode cJ5_newCapacity_0f7a4 54 = .ok (.getfield 22, 3) := by decide +kernel
theorem dJ5_newCapacity_0f7a4_57 : decode cJ5_newCapacity_0f7a4 57 = .ok (.ishr, 1) := by decide +kernel
theorem dJ5_newCapacity_0f7a4_58 : decode cJ5_newCapacity_0f7a4 58 = .ok (.ireturn, 1) := by decide +kernel
theorem dJ5_inflate_da8c8_0 : decode cJ5_inflate_da8c8 0 = .ok (.aload_n 0, 1) := by decide +kernel
theorem dJ5_inflate_da8c8_1 : decode cJ5_inflate_da8c8 1 = .ok (.invokevirtual 83, 3) := by decide +kernel
theorem dJ5_inflate_da8c8_4 : decode cJ5_inflate_da8c8 4 = .ok (.ifCond .ne 4, 3) := by decide +kernel
theorem dJ5_inflate_da8c8_7 : decode cJ5_inflate_da8c8 7 = .ok (.return_, 1) := by decide +kernel
theorem dJ5_inflate_da8c8_8 : decode cJ5_inflate_da8c8 8 = .ok (.aload_n 0, 1) := by decide +kernel
theorem dJ5_inflate_da8c8_9 : decode cJ5_inflate_da8c8 9 = .ok (.getfield 15, 3) := by decide +kernel
theorem dJ5_inflate_da8c8_12 : decode cJ5_inflate_da8c8 12 = .ok (.arraylength, 1) := by decide +kernel
theorem dJ5_inflate_da8c8_13 : decode cJ5_inflate_da8c8 13 = .ok (.invokestatic 26, 3) := by decide +kernel
theorem dJ5_inflate_da8c8_16 : decode cJ5_inflate_da8c8 16 = .ok (.astore_n 1, 1) := by decide +kernel
theorem dJ5_inflate_da8c8_17 : decode cJ5_inflate_da8c8 17 = .ok (.aload_n 0, 1) := by decide +kernel
theorem dJ5_inflate_da8c8_18 : decode cJ5_inflate_da8c8 18 = .ok (.getfield 15, 3) := by decide +kernel
theorem dJ5_inflate_da8c8_21 : decode cJ5_inflate_da8c8 21 = .ok (.iconst 0, 1) := by decide +kernel
theorem dJ5_inflate_da8c8_22 : decode cJ5_inflate_da8c8 22 = .ok (.aload_n 1, 1) := by decide +kernel
theorem dJ5_inflate_da8c8_23 : decode cJ5_inflate_da8c8 23 = .ok (.iconst 0, 1) := by decide +kernel
theorem dJ5_inflate_da8c8_24 : decode cJ5_inflate_da8c8 24 = .ok (.aload_n 0, 1) := by decide +kernel
theorem dJ5_inflate_da8c8_25 : decode cJ5_inflate_da8c8 25 = .ok (.getfield 79, 3) := by decide +kernel
theorem dJ5_inflate_da8c8_28 : decode cJ5_inflate_da8c8 28 = .ok (.invokestatic 125, 3) := by decide +kernel
theorem dJ5_inflate_da8c8_31 : decode cJ5_inflate_da8c8 31 = .ok (.aload_n 0, 1) := by decide +kernel
theorem dJ5_inflate_da8c8_32 : decode cJ5_inflate_da8c8 32 = .ok (.aload_n 1, 1) := by decide +kernel
theorem dJ5_inflate_da8c8_33 : decode cJ5_inflate_da8c8 33 = .ok (.putfield 15, 3) := by decide +kernel
theorem dJ5_inflate_da8c8_36 : decode cJ5_inflate_da8c8 36 = .ok (.aload_n 0, 1) := by decide +kernel
theorem dJ5_inflate_da8c8_37 : decode cJ5_inflate_da8c8 37 = .ok (.iconst 1, 1) := by decide +kernel
theorem dJ5_inflate_da8c8_38 : decode cJ5_inflate_da8c8 38 = .ok (.putfield 22, 3) := by decide +kernel
theorem dJ5_inflate_da8c8_41 : decode cJ5_inflate_da8c8 41 = .ok (.return_, 1) := by decide +kernel
theorem dJ5_append_cf1ce_0 : decode cJ5_append_cf1ce 0 = .ok (.aload_n 1, 1) := by decide +kernel
theorem dJ5_append_cf1ce_1 : decode cJ5_append_cf1ce 1 = .ok (.ifnonnull 8, 3) := by decide +kernel
theorem dJ5_append_cf1ce_4 : decode cJ5_append_cf1ce 4 = .ok (.aload_n 0, 1) := by decide +kernel
theorem dJ5_append_cf1ce_5 : decode cJ5_append_cf1ce 5 = .ok (.invokevirtual 204, 3) := by decide +kernel
theorem dJ5_append_cf1ce_8 : decode cJ5_append_cf1ce 8 = .ok (.areturn, 1) := by decide +kernel
theorem dJ5_append_cf1ce_9 : decode cJ5_append_cf1ce 9 = .ok (.aload_n 1, 1) := by decide +kernel
theorem dJ5_append_cf1ce_10 : decode cJ5_append_cf1ce 10 = .ok (.invokevirtual 32, 3) := by decide +kernel
theorem dJ5_append_cf1ce_13 : decode cJ5_append_cf1ce 13 = .ok (.istore_n 2, 1) := by decide +kernel
theorem dJ5_append_cf1ce_14 : decode cJ5_append_cf1ce 14 = .ok (.aload_n 0, 1) := by decide +kernel
theorem dJ5_append_cf1ce_15 : decode cJ5_append_cf1ce 15 = .ok (.aload_n 0, 1) := by decide +kernel
theorem dJ5_append_cf1ce_16 : decode cJ5_append_cf1ce 16 = .ok (.getfield 79, 3) := by decide +kernel
theorem dJ5_append_cf1ce_19 : decode cJ5_append_cf1ce 19 = .ok (.iload_n 2, 1) := by decide +kernel
theorem dJ5_append_cf1ce_20 : decode cJ5_append_cf1ce 20 = .ok (.iadd, 1) := by decide +kernel
theorem dJ5_append_cf1ce_21 : decode cJ5_append_cf1ce 21 = .ok (.invokevirtual 100, 3) := by decide +kernel
theorem dJ5_append_cf1ce_24 : decode cJ5_append_cf1ce 24 = .ok (.aload_n 0, 1) := by decide +kernel
theorem dJ5_append_cf1ce_25 : decode cJ5_append_cf1ce 25 = .ok (.aload_n 0, 1) := by decide +kernel
theorem dJ5_append_cf1ce_26 : decode cJ5_append_cf1ce 26 = .ok (.getfield 79, 3) := by decide +kernel
theorem dJ5_append_cf1ce_29 : decode cJ5_append_cf1ce 29 = .ok (.aload_n 1, 1) := by decide +kernel
theorem dJ5_append_cf1ce_30 : decode cJ5_append_cf1ce 30 = .ok (.invokevirtual 208, 3) := by decide +kernel
theorem dJ5_append_cf1ce_33 : decode cJ5_append_cf1ce 33 = .ok (.aload_n 0, 1) := by decide +kernel
theorem dJ5_append_cf1ce_34 : decode cJ5_append_cf1ce 34 = .ok (.dup, 1) := by decide +kernel
theorem dJ5_append_cf1ce_35 : decode cJ5_append_cf1ce 35 = .ok (.getfield 79, 3) := by decide +kernel
theorem dJ5_append_cf1ce_38 : decode cJ5_append_cf1ce 38 = .ok (.iload_n 2, 1) := by decide +kernel
theorem dJ5_append_cf1ce_39 : decode cJ5_append_cf1ce 39 = .ok (.iadd, 1) := by decide +kernel
theorem dJ5_append_cf1ce_40 : decode cJ5_append_cf1ce 40 = .ok (.putfield 79, 3) := by decide +kernel
theorem dJ5_append_cf1ce_43 : decode cJ5_append_cf1ce 43 = .ok (.aload_n 0, 1) := by decide +kernel
theorem dJ5_append_cf1ce_44 : decode cJ5_append_cf1ce 44 = .ok (.areturn, 1) := by decide +kernel
theorem dJ5_appendNull_278bc_0 : decode cJ5_appendNull_278bc 0 = .ok (.aload_n 0, 1) := by decide +kernel
theorem dJ5_appendNull_278bc_1 : decode cJ5_appendNull_278bc 1 = .ok (.aload_n 0, 1) := by decide +kernel
theorem dJ5_appendNull_278bc_2 : decode cJ5_appendNull_278bc 2 = .ok (.getfield 79, 3) := by decide +kernel
theorem dJ5_appendNull_278bc_5 : decode cJ5_appendNull_278bc 5 = .ok (.iconst 4, 1) := by decide +kernel
theorem dJ5_appendNull_278bc_6 : decode cJ5_appendNull_278bc 6 = .ok (.iadd, 1) := by decide +kernel
theorem dJ5_appendNull_278bc_7 : decode cJ5_appendNull_278bc 7 = .ok (.invokevirtual 100, 3) := by decide +kernel
theorem dJ5_appendNull_278bc_10 : decode cJ5_appendNull_278bc 10 = .ok (.aload_n 0, 1) := by decide +kernel
theorem dJ5_appendNull_278bc_11 : decode cJ5_appendNull_278bc 11 = .ok (.getfield 79, 3) := by decide +kernel
theorem dJ5_appendNull_278bc_14 : decode cJ5_appendNull_278bc 14 = .ok (.istore_n 1, 1) := by decide +kernel
theorem dJ5_appendNull_278bc_15 : decode cJ5_appendNull_278bc 15 = .ok (.aload_n 0, 1) := by decide +kernel
theorem dJ5_appendNull_278bc_16 : decode cJ5_appendNull_278bc 16 = .ok (.getfield 15, 3) := by decide +kernel
theorem dJ5_appendNull_278bc_19 : decode cJ5_appendNull_278bc 19 = .ok (.astore_n 2, 1) := by decide +kernel
theorem dJ5_appendNull_278bc_20 : decode cJ5_appendNull_278bc 20 = .ok (.aload_n 0, 1) := by decide +kernel
theorem dJ5_appendNull_278bc_21 : decode cJ5_appendNull_278bc 21 = .ok (.invokevirtual 83, 3) := by decide +kernel
theorem dJ5_appendNull_278bc_24 : decode cJ5_appendNull_278bc 24 = .ok (.ifCond .eq 38, 3) := by decide +kernel
theorem dJ5_appendNull_278bc_27 : decode cJ5_appendNull_278bc 27 = .ok (.aload_n 2, 1) := by decide +kernel
theorem dJ5_appendNull_278bc_28 : decode cJ5_appendNull_278bc 28 = .ok (.iload_n 1, 1) := by decide +kernel
theorem dJ5_appendNull_278bc_29 : decode cJ5_appendNull_278bc 29 = .ok (.iinc 1 1, 3) := by decide +kernel
theorem dJ5_appendNull_278bc_32 : decode cJ5_appendNull_278bc 32 = .ok (.bipush 110, 2) := by decide +kernel
theorem dJ5_appendNull_278bc_34 : decode cJ5_appendNull_278bc 34 = .ok (.bastore, 1) := by decide +kernel
theorem dJ5_appendNull_278bc_35 : decode cJ5_appendNull_278bc 35 = .ok (.aload_n 2, 1) := by decide +kernel
theorem dJ5_appendNull_278bc_36 : decode cJ5_appendNull_278bc 36 = .ok (.iload_n 1, 1) := by decide +kernel
theorem dJ5_appendNull_278bc_37 : decode cJ5_appendNull_278bc 37 = .ok (.iinc 1 1, 3) := by decide +kernel
theorem dJ5_appendNull_278bc_40 : decode cJ5_appendNull_278bc 40 = .ok (.bipush 117, 2) := by decide +kernel
theorem dJ5_appendNull_278bc_42 : decode cJ5_appendNull_278bc 42 = .ok (.bastore, 1) := by decide +kernel
theorem dJ5_appendNull_278bc_43 : decode cJ5_appendNull_278bc 43 = .ok (.aload_n 2, 1) := by decide +kernel
theorem dJ5_appendNull_278bc_44 : decode cJ5_appendNull_278bc 44 = .ok (.iload_n 1, 1) := by decide +kernel
theorem dJ5_appendNull_278bc_45 : decode cJ5_appendNull_278bc 45 = .ok (.iinc 1 1, 3) := by decide +kernel
theorem dJ5_appendNull_278bc_48 : decode cJ5_appendNull_278bc 48 = .ok (.bipush 108, 2) := by decide +kernel
theorem dJ5_appendNull_278bc_50 : decode cJ5_appendNull_278bc 50 = .ok (.bastore, 1) := by decide +kernel
theorem dJ5_appendNull_278bc_51 : decode cJ5_appendNull_278bc 51 = .ok (.aload_n 2, 1) := by decide +kernel
theorem dJ5_appendNull_278bc_52 : decode cJ5_appendNull_278bc 52 = .ok (.iload_n 1, 1) := by decide +kernel
theorem dJ5_appendNull_278bc_53 : decode cJ5_appendNull_278bc 53 = .ok (.iinc 1 1, 3) := by decide +kernel
theorem dJ5_appendNull_278bc_56 : decode cJ5_appendNull_278bc 56 = .ok (.bipush 108, 2) := by decide +kernel
theorem dJ5_appendNull_278bc_58 : decode cJ5_appendNull_278bc 58 = .ok (.bastore, 1) := by decide +kernel
theorem dJ5_appendNull_278bc_59 : decode cJ5_appendNull_278bc 59 = .ok (.goto 17, 3) := by decide +kernel
theorem dJ5_appendNull_278bc_62 : decode cJ5_appendNull_278bc 62 = .ok (.aload_n 2, 1) := by decide +kernel
theorem dJ5_appendNull_278bc_63 : decode cJ5_appendNull_278bc 63 = .ok (.iload_n 1, 1) := by decide +kernel
theorem dJ5_appendNull_278bc_64 : decode cJ5_appendNull_278bc 64 = .ok (.bipush 110, 2) := by decide +kernel
theorem dJ5_appendNull_278bc_66 : decode cJ5_appendNull_278bc 66 = .ok (.bipush 117, 2) := by decide +kernel
theorem dJ5_appendNull_278bc_68 : decode cJ5_appendNull_278bc 68 = .ok (.bipush 108, 2) := by decide +kernel
theorem dJ5_appendNull_278bc_70 : decode cJ5_appendNull_278bc 70 = .ok (.bipush 108, 2) := by decide +kernel
theorem dJ5_appendNull_278bc_72 : decode cJ5_appendNull_278bc 72 = .ok (.invokestatic 226, 3) := by decide +kernel
theorem dJ5_appendNull_278bc_75 : decode cJ5_appendNull_278bc 75 = .ok (.istore_n 1, 1) := by decide +kernel
theorem dJ5_appendNull_278bc_76 : decode cJ5_appendNull_278bc 76 = .ok (.aload_n 0, 1) := by decide +kernel
theorem dJ5_appendNull_278bc_77 : decode cJ5_appendNull_278bc 77 = .ok (.iload_n 1, 1) := by decide +kernel
theorem dJ5_appendNull_278bc_78 : decode cJ5_appendNull_278bc 78 = .ok (.putfield 79, 3) := by decide +kernel
theorem dJ5_appendNull_278bc_81 : decode cJ5_appendNull_278bc 81 = .ok (.aload_n 0, 1) := by decide +kernel
theorem dJ5_appendNull_278bc_82 : decode cJ5_appendNull_278bc 82 = .ok (.areturn, 1) := by decide +kernel
theorem dJ5_append_3fe6f_0 : decode cJ5_append_3fe6f 0 = .ok (.aload_n 0, 1) := by decide +kernel
theorem dJ5_append_3fe6f_1 : decode cJ5_append_3fe6f 1 = .ok (.aload_n 0, 1) := by decide +kernel
theorem dJ5_append_3fe6f_2 : decode cJ5_append_3fe6f 2 = .ok (.getfield 79, 3) := by decide +kernel
theorem dJ5_append_3fe6f_5 : decode cJ5_append_3fe6f 5 = .ok (.iconst 1, 1) := by decide +kernel
theorem dJ5_append_3fe6f_6 : decode cJ5_append_3fe6f 6 = .ok (.iadd, 1) := by decide +kernel
theorem dJ5_append_3fe6f_7 : decode cJ5_append_3fe6f 7 = .ok (.invokevirtual 100, 3) := by decide +kernel
theorem dJ5_append_3fe6f_10 : decode cJ5_append_3fe6f 10 = .ok (.aload_n 0, 1) := by decide +kernel
theorem dJ5_append_3fe6f_11 : decode cJ5_append_3fe6f 11 = .ok (.invokevirtual 83, 3) := by decide +kernel
theorem dJ5_append_3fe6f_14 : decode cJ5_append_3fe6f 14 = .ok (.ifCond .eq 31, 3) := by decide +kernel
theorem dJ5_append_3fe6f_17 : decode cJ5_append_3fe6f 17 = .ok (.iload_n 1, 1) := by decide +kernel
theorem dJ5_append_3fe6f_18 : decode cJ5_append_3fe6f 18 = .ok (.invokestatic 191, 3) := by decide +kernel
theorem dJ5_append_3fe6f_21 : decode cJ5_append_3fe6f 21 = .ok (.ifCond .eq 24, 3) := by decide +kernel
theorem dJ5_append_3fe6f_24 : decode cJ5_append_3fe6f 24 = .ok (.aload_n 0, 1) := by decide +kernel
theorem dJ5_append_3fe6f_25 : decode cJ5_append_3fe6f 25 = .ok (.getfield 15, 3) := by decide +kernel
theorem dJ5_append_3fe6f_28 : decode cJ5_append_3fe6f 28 = .ok (.aload_n 0, 1) := by decide +kernel
theorem dJ5_append_3fe6f_29 : decode cJ5_append_3fe6f 29 = .ok (.dup, 1) := by decide +kernel
theorem dJ5_append_3fe6f_30 : decode cJ5_append_3fe6f 30 = .ok (.getfield 79, 3) := by decide +kernel
theorem dJ5_append_3fe6f_33 : decode cJ5_append_3fe6f 33 = .ok (.dup_x1, 1) := by decide +kernel
theorem dJ5_append_3fe6f_34 : decode cJ5_append_3fe6f 34 = .ok (.iconst 1, 1) := by decide +kernel
theorem dJ5_append_3fe6f_35 : decode cJ5_append_3fe6f 35 = .ok (.iadd, 1) := by decide +kernel
theorem dJ5_append_3fe6f_36 : decode cJ5_append_3fe6f 36 = .ok (.putfield 79, 3) := by decide +kernel
theorem dJ5_append_3fe6f_39 : decode cJ5_append_3fe6f 39 = .ok (.iload_n 1, 1) := by decide +kernel
theorem dJ5_append_3fe6f_40 : decode cJ5_append_3fe6f 40 = .ok (.i2b, 1) := by decide +kernel
theorem dJ5_append_3fe6f_41 : decode cJ5_append_3fe6f 41 = .ok (.bastore, 1) := by decide +kernel
theorem dJ5_append_3fe6f_42 : decode cJ5_append_3fe6f 42 = .ok (.goto 33, 3) := by decide +kernel
theorem dJ5_append_3fe6f_45 : decode cJ5_append_3fe6f 45 = .ok (.aload_n 0, 1) := by decide +kernel
theorem dJ5_append_3fe6f_46 : decode cJ5_append_3fe6f 46 = .ok (.invokevirtual 83, 3) := by decide +kernel
theorem dJ5_append_3fe6f_49 : decode cJ5_append_3fe6f 49 = .ok (.ifCond .eq 7, 3) := by decide +kernel
theorem dJ5_append_3fe6f_52 : decode cJ5_append_3fe6f 52 = .ok (.aload_n 0, 1) := by decide +kernel
theorem dJ5_append_3fe6f_53 : decode cJ5_append_3fe6f 53 = .ok (.invokevirtual 195, 3) := by decide +kernel
theorem dJ5_append_3fe6f_56 : decode cJ5_append_3fe6f 56 = .ok (.aload_n 0, 1) := by decide +kernel
theorem dJ5_append_3fe6f_57 : decode cJ5_append_3fe6f 57 = .ok (.getfield 15, 3) := by decide +kernel
theorem dJ5_append_3fe6f_60 : decode cJ5_append_3fe6f 60 = .ok (.aload_n 0, 1) := by decide +kernel
theorem dJ5_append_3fe6f_61 : decode cJ5_append_3fe6f 61 = .ok (.dup, 1) := by decide +kernel
theorem dJ5_append_3fe6f_62 : decode cJ5_append_3fe6f 62 = .ok (.getfield 79, 3) := by decide +kernel
theorem dJ5_append_3fe6f_65 : decode cJ5_append_3fe6f 65 = .ok (.dup_x1, 1) := by decide +kernel
theorem dJ5_append_3fe6f_66 : decode cJ5_append_3fe6f 66 = .ok (.iconst 1, 1) := by decide +kernel
theorem dJ5_append_3fe6f_67 : decode cJ5_append_3fe6f 67 = .ok (.iadd, 1) := by decide +kernel
theorem dJ5_append_3fe6f_68 : decode cJ5_append_3fe6f 68 = .ok (.putfield 79, 3) := by decide +kernel
theorem dJ5_append_3fe6f_71 : decode cJ5_append_3fe6f 71 = .ok (.iload_n 1, 1) := by decide +kernel
theorem dJ5_append_3fe6f_72 : decode cJ5_append_3fe6f 72 = .ok (.invokestatic 197, 3) := by decide +kernel
theorem dJ5_append_3fe6f_75 : decode cJ5_append_3fe6f 75 = .ok (.aload_n 0, 1) := by decide +kernel
theorem dJ5_append_3fe6f_76 : decode cJ5_append_3fe6f 76 = .ok (.areturn, 1) := by decide +kernel
theorem dJ5_append_c97b9_0 : decode cJ5_append_c97b9 0 = .ok (.aload_n 0, 1) := by decide +kernel
theorem dJ5_append_c97b9_1 : decode cJ5_append_c97b9 1 = .ok (.getfield 79, 3) := by decide +kernel
theorem dJ5_append_c97b9_4 : decode cJ5_append_c97b9 4 = .ok (.istore_n 2, 1) := by decide +kernel
theorem dJ5_append_c97b9_5 : decode cJ5_append_c97b9 5 = .ok (.iload_n 2, 1) := by decide +kernel
theorem dJ5_append_c97b9_6 : decode cJ5_append_c97b9 6 = .ok (.iload_n 1, 1) := by decide +kernel
theorem dJ5_append_c97b9_7 : decode cJ5_append_c97b9 7 = .ok (.invokestatic 245, 3) := by decide +kernel
theorem dJ5_append_c97b9_10 : decode cJ5_append_c97b9 10 = .ok (.iadd, 1) := by decide +kernel
theorem dJ5_append_c97b9_11 : decode cJ5_append_c97b9 11 = .ok (.istore_n 3, 1) := by decide +kernel
theorem dJ5_append_c97b9_12 : decode cJ5_append_c97b9 12 = .ok (.aload_n 0, 1) := by decide +kernel
theorem dJ5_append_c97b9_13 : decode cJ5_append_c97b9 13 = .ok (.iload_n 3, 1) := by decide +kernel
theorem dJ5_append_c97b9_14 : decode cJ5_append_c97b9 14 = .ok (.invokevirtual 100, 3) := by decide +kernel
theorem dJ5_append_c97b9_17 : decode cJ5_append_c97b9 17 = .ok (.aload_n 0, 1) := by decide +kernel
theorem dJ5_append_c97b9_18 : decode cJ5_append_c97b9 18 = .ok (.invokevirtual 83, 3) := by decide +kernel
theorem dJ5_append_c97b9_21 : decode cJ5_append_c97b9 21 = .ok (.ifCond .eq 16, 3) := by decide +kernel
theorem dJ5_append_c97b9_24 : decode cJ5_append_c97b9 24 = .ok (.iload_n 1, 1) := by decide +kernel
theorem dJ5_append_c97b9_25 : decode cJ5_append_c97b9 25 = .ok (.iload_n 3, 1) := by decide +kernel
theorem dJ5_append_c97b9_26 : decode cJ5_append_c97b9 26 = .ok (.aload_n 0, 1) := by decide +kernel
theorem dJ5_append_c97b9_27 : decode cJ5_append_c97b9 27 = .ok (.getfield 15, 3) := by decide +kernel
theorem dJ5_append_c97b9_30 : decode cJ5_append_c97b9 30 = .ok (.invokestatic 248, 3) := by decide +kernel
theorem dJ5_append_c97b9_33 : decode cJ5_append_c97b9 33 = .ok (.pop, 1) := by decide +kernel
theorem dJ5_append_c97b9_34 : decode cJ5_append_c97b9 34 = .ok (.goto 14, 3) := by decide +kernel
theorem dJ5_append_c97b9_37 : decode cJ5_append_c97b9 37 = .ok (.iload_n 1, 1) := by decide +kernel
theorem dJ5_append_c97b9_38 : decode cJ5_append_c97b9 38 = .ok (.iload_n 2, 1) := by decide +kernel
theorem dJ5_append_c97b9_39 : decode cJ5_append_c97b9 39 = .ok (.iload_n 3, 1) := by decide +kernel
theorem dJ5_append_c97b9_40 : decode cJ5_append_c97b9 40 = .ok (.aload_n 0, 1) := by decide +kernel
theorem dJ5_append_c97b9_41 : decode cJ5_append_c97b9 41 = .ok (.getfield 15, 3) := by decide +kernel
theorem dJ5_append_c97b9_44 : decode cJ5_append_c97b9 44 = .ok (.invokestatic 251, 3) := by decide +kernel
theorem dJ5_append_c97b9_47 : decode cJ5_append_c97b9 47 = .ok (.pop, 1) := by decide +kernel
theorem dJ5_append_c97b9_48 : decode cJ5_append_c97b9 48 = .ok (.aload_n 0, 1) := by decide +kernel
theorem dJ5_append_c97b9_49 : decode cJ5_append_c97b9 49 = .ok (.iload_n 3, 1) := by decide +kernel
theorem dJ5_append_c97b9_50 : decode cJ5_append_c97b9 50 = .ok (.putfield 79, 3) := by decide +kernel
theorem dJ5_append_c97b9_53 : decode cJ5_append_c97b9 53 = .ok (.aload_n 0, 1) := by decide +kernel
theorem dJ5_append_c97b9_54 : decode cJ5_append_c97b9 54 = .ok (.areturn, 1) := by decide +kernel
theorem dJ5_getValue_6d5f1_0 : decode cJ5_getValue_6d5f1 0 = .ok (.aload_n 0, 1) := by decide +kernel
theorem dJ5_getValue_6d5f1_1 : decode cJ5_getValue_6d5f1 1 = .ok (.getfield 15, 3) := by decide +kernel
theorem dJ5_getValue_6d5f1_4 : decode cJ5_getValue_6d5f1 4 = .ok (.areturn, 1) := by decide +kernel
theorem dJ5_isLatin1_aae02_0 : decode cJ5_isLatin1_aae02 0 = .ok (.getstatic 18, 3) := by decide +kernel
theorem dJ5_isLatin1_aae02_3 : decode cJ5_isLatin1_aae02 3 = .ok (.ifCond .eq 14, 3) := by decide +kernel
theorem dJ5_isLatin1_aae02_6 : decode cJ5_isLatin1_aae02 6 = .ok (.aload_n 0, 1) := by decide +kernel
theorem dJ5_isLatin1_aae02_7 : decode cJ5_isLatin1_aae02 7 = .ok (.getfield 22, 3) := by decide +kernel
theorem dJ5_isLatin1_aae02_10 : decode cJ5_isLatin1_aae02 10 = .ok (.ifCond .ne 7, 3) := by decide +kernel
theorem dJ5_isLatin1_aae02_13 : decode cJ5_isLatin1_aae02 13 = .ok (.iconst 1, 1) := by decide +kernel
theorem dJ5_isLatin1_aae02_14 : decode cJ5_isLatin1_aae02 14 = .ok (.goto 4, 3) := by decide +kernel
theorem dJ5_isLatin1_aae02_17 : decode cJ5_isLatin1_aae02 17 = .ok (.iconst 0, 1) := by decide +kernel
theorem dJ5_isLatin1_aae02_18 : decode cJ5_isLatin1_aae02 18 = .ok (.ireturn, 1) := by decide +kernel
theorem dJ5_inflateIfNeededFor_a7421_0 : decode cJ5_inflateIfNeededFor_a7421 0 = .ok (.getstatic 18, 3) := by decide +kernel
theorem dJ5_inflateIfNeededFor_a7421_3 : decode cJ5_inflateIfNeededFor_a7421 3 = .ok (.ifCond .eq 18, 3) := by decide +kernel
theorem dJ5_inflateIfNeededFor_a7421_6 : decode cJ5_inflateIfNeededFor_a7421 6 = .ok (.aload_n 0, 1) := by decide +kernel
theorem dJ5_inflateIfNeededFor_a7421_7 : decode cJ5_inflateIfNeededFor_a7421 7 = .ok (.getfield 22, 3) := by decide +kernel
theorem dJ5_inflateIfNeededFor_a7421_10 : decode cJ5_inflateIfNeededFor_a7421 10 = .ok (.aload_n 1, 1) := by decide +kernel
theorem dJ5_inflateIfNeededFor_a7421_11 : decode cJ5_inflateIfNeededFor_a7421 11 = .ok (.invokevirtual 40, 3) := by decide +kernel
theorem dJ5_inflateIfNeededFor_a7421_14 : decode cJ5_inflateIfNeededFor_a7421 14 = .ok (.if_icmp .eq 7, 3) := by decide +kernel
theorem dJ5_inflateIfNeededFor_a7421_17 : decode cJ5_inflateIfNeededFor_a7421 17 = .ok (.aload_n 0, 1) := by decide +kernel
theorem dJ5_inflateIfNeededFor_a7421_18 : decode cJ5_inflateIfNeededFor_a7421 18 = .ok (.invokevirtual 195, 3) := by decide +kernel
theorem dJ5_inflateIfNeededFor_a7421_21 : decode cJ5_inflateIfNeededFor_a7421 21 = .ok (.return_, 1) := by decide +kernel
theorem dJ5_putStringAt_47b60_0 : decode cJ5_putStringAt_47b60 0 = .ok (.aload_n 0, 1) := by decide +kernel
theorem dJ5_putStringAt_47b60_1 : decode cJ5_putStringAt_47b60 1 = .ok (.aload_n 2, 1) := by decide +kernel
theorem dJ5_putStringAt_47b60_2 : decode cJ5_putStringAt_47b60 2 = .ok (.invokevirtual 397, 3) := by decide +kernel
theorem dJ5_putStringAt_47b60_5 : decode cJ5_putStringAt_47b60 5 = .ok (.aload_n 2, 1) := by decide +kernel
theorem dJ5_putStringAt_47b60_6 : decode cJ5_putStringAt_47b60 6 = .ok (.aload_n 0, 1) := by decide +kernel
theorem dJ5_putStringAt_47b60_7 : decode cJ5_putStringAt_47b60 7 = .ok (.getfield 15, 3) := by decide +kernel
theorem dJ5_putStringAt_47b60_10 : decode cJ5_putStringAt_47b60 10 = .ok (.iload_n 1, 1) := by decide +kernel
theorem dJ5_putStringAt_47b60_11 : decode cJ5_putStringAt_47b60 11 = .ok (.aload_n 0, 1) := by decide +kernel
theorem dJ5_putStringAt_47b60_12 : decode cJ5_putStringAt_47b60 12 = .ok (.getfield 22, 3) := by decide +kernel
theorem dJ5_putStringAt_47b60_15 : decode cJ5_putStringAt_47b60 15 = .ok (.invokevirtual 399, 3) := by decide +kernel
theorem dJ5_putStringAt_47b60_18 : decode cJ5_putStringAt_47b60 18 = .ok (.return_, 1) := by decide +kernel
theorem dJ6_getChars_ba4f3_0 : decode cJ6_getChars_ba4f3 0 = .ok (.iload_n 1, 1) := by decide +kernel
theorem dJ6_getChars_ba4f3_1 : decode cJ6_getChars_ba4f3 1 = .ok (.istore 5, 2) := by decide +kernel
theorem dJ6_getChars_ba4f3_3 : decode cJ6_getChars_ba4f3 3 = .ok (.iload_n 0, 1) := by decide +kernel
theorem dJ6_getChars_ba4f3_4 : decode cJ6_getChars_ba4f3 4 = .ok (.ifCond .ge 7, 3) := by decide +kernel
theorem dJ6_getChars_ba4f3_7 : decode cJ6_getChars_ba4f3 7 = .ok (.iconst 1, 1) := by decide +kernel
theorem dJ6_getChars_ba4f3_8 : decode cJ6_getChars_ba4f3 8 = .ok (.goto 4, 3) := by decide +kernel
theorem dJ6_getChars_ba4f3_11 : decode cJ6_getChars_ba4f3 11 = .ok (.iconst 0, 1) := by decide +kernel
theorem dJ6_getChars_ba4f3_12 : decode cJ6_getChars_ba4f3 12 = .ok (.istore 6, 2) := by decide +kernel
theorem dJ6_getChars_ba4f3_14 : decode cJ6_getChars_ba4f3 14 = .ok (.iload 6, 2) := by decide +kernel
theorem dJ6_getChars_ba4f3_16 : decode cJ6_getChars_ba4f3 16 = .ok (.ifCond .ne 6, 3) := by decide +kernel
theorem dJ6_getChars_ba4f3_19 : decode cJ6_getChars_ba4f3 19 = .ok (.iload_n 0, 1) := by decide +kernel
theorem dJ6_getChars_ba4f3_20 : decode cJ6_getChars_ba4f3 20 = .ok (.ineg, 1) := by decide +kernel
theorem dJ6_getChars_ba4f3_21 : decode cJ6_getChars_ba4f3 21 = .ok (.istore_n 0, 1) := by decide +kernel
theorem dJ6_getChars_ba4f3_22 : decode cJ6_getChars_ba4f3 22 = .ok (.iload_n 0, 1) := by decide +kernel
theorem dJ6_getChars_ba4f3_23 : decode cJ6_getChars_ba4f3 23 = .ok (.bipush (-100), 2) := by decide +kernel
theorem dJ6_getChars_ba4f3_25 : decode cJ6_getChars_ba4f3 25 = .ok (.if_icmp .gt 47, 3) := by decide +kernel
theorem dJ6_getChars_ba4f3_28 : decode cJ6_getChars_ba4f3 28 = .ok (.iload_n 0, 1) := by decide +kernel
theorem dJ6_getChars_ba4f3_29 : decode cJ6_getChars_ba4f3 29 = .ok (.bipush 100, 2) := by decide +kernel
theorem dJ6_getChars_ba4f3_31 : decode cJ6_getChars_ba4f3 31 = .ok (.idiv, 1) := by decide +kernel
theorem dJ6_getChars_ba4f3_32 : decode cJ6_getChars_ba4f3 32 = .ok (.istore_n 3, 1) := by decide +kernel
theorem dJ6_getChars_ba4f3_33 : decode cJ6_getChars_ba4f3 33 = .ok (.iload_n 3, 1) := by decide +kernel
theorem dJ6_getChars_ba4f3_34 : decode cJ6_getChars_ba4f3 34 = .ok (.bipush 100, 2) := by decide +kernel
theorem dJ6_getChars_ba4f3_36 : decode cJ6_getChars_ba4f3 36 = .ok (.imul, 1) := by decide +kernel
theorem dJ6_getChars_ba4f3_37 : decode cJ6_getChars_ba4f3 37 = .ok (.iload_n 0, 1) := by decide +kernel
theorem dJ6_getChars_ba4f3_38 : decode cJ6_getChars_ba4f3 38 = .ok (.isub, 1) := by decide +kernel
theorem dJ6_getChars_ba4f3_39 : decode cJ6_getChars_ba4f3 39 = .ok (.istore 4, 2) := by decide +kernel
theorem dJ6_getChars_ba4f3_41 : decode cJ6_getChars_ba4f3 41 = .ok (.iload_n 3, 1) := by decide +kernel
theorem dJ6_getChars_ba4f3_42 : decode cJ6_getChars_ba4f3 42 = .ok (.istore_n 0, 1) := by decide +kernel
theorem dJ6_getChars_ba4f3_43 : decode cJ6_getChars_ba4f3 43 = .ok (.aload_n 2, 1) := by decide +kernel
theorem dJ6_getChars_ba4f3_44 : decode cJ6_getChars_ba4f3 44 = .ok (.iinc 5 (-1), 3) := by decide +kernel
theorem dJ6_getChars_ba4f3_47 : decode cJ6_getChars_ba4f3 47 = .ok (.iload 5, 2) := by decide +kernel
theorem dJ6_getChars_ba4f3_49 : decode cJ6_getChars_ba4f3 49 = .ok (.getstatic 83, 3) := by decide +kernel
theorem dJ6_getChars_ba4f3_52 : decode cJ6_getChars_ba4f3 52 = .ok (.iload 4, 2) := by decide +kernel
theorem dJ6_getChars_ba4f3_54 : decode cJ6_getChars_ba4f3 54 = .ok (.baload, 1) := by decide +kernel
theorem dJ6_getChars_ba4f3_55 : decode cJ6_getChars_ba4f3 55 = .ok (.bastore, 1) := by decide +kernel
theorem dJ6_getChars_ba4f3_56 : decode cJ6_getChars_ba4f3 56 = .ok (.aload_n 2, 1) := by decide +kernel
theorem dJ6_getChars_ba4f3_57 : decode cJ6_getChars_ba4f3 57 = .ok (.iinc 5 (-1), 3) := by decide +kernel
theorem dJ6_getChars_ba4f3_60 : decode cJ6_getChars_ba4f3 60 = .ok (.iload 5, 2) := by decide +kernel
theorem dJ6_getChars_ba4f3_62 : decode cJ6_getChars_ba4f3 62 = .ok (.getstatic 87, 3) := by decide +kernel
theorem dJ6_getChars_ba4f3_65 : decode cJ6_getChars_ba4f3 65 = .ok (.iload 4, 2) := by decide +kernel
theorem dJ6_getChars_ba4f3_67 : decode cJ6_getChars_ba4f3 67 = .ok (.baload, 1) := by decide +kernel
theorem dJ6_getChars_ba4f3_68 : decode cJ6_getChars_ba4f3 68 = .ok (.bastore, 1) := by decide +kernel
theorem dJ6_getChars_ba4f3_69 : decode cJ6_getChars_ba4f3 69 = .ok (.goto (-47), 3) := by decide +kernel
theorem dJ6_getChars_ba4f3_72 : decode cJ6_getChars_ba4f3 72 = .ok (.aload_n 2, 1) := by decide +kernel
theorem dJ6_getChars_ba4f3_73 : decode cJ6_getChars_ba4f3 73 = .ok (.iinc 5 (-1), 3) := by decide +kernel
theorem dJ6_getChars_ba4f3_76 : decode cJ6_getChars_ba4f3 76 = .ok (.iload 5, 2) := by decide +kernel
theorem dJ6_getChars_ba4f3_78 : decode cJ6_getChars_ba4f3 78 = .ok (.getstatic 83, 3) := by decide +kernel
theorem dJ6_getChars_ba4f3_81 : decode cJ6_getChars_ba4f3 81 = .ok (.iload_n 0, 1) := by decide +kernel
theorem dJ6_getChars_ba4f3_82 : decode cJ6_getChars_ba4f3 82 = .ok (.ineg, 1) := by decide +kernel
theorem dJ6_getChars_ba4f3_83 : decode cJ6_getChars_ba4f3 83 = .ok (.baload, 1) := by decide +kernel
theorem dJ6_getChars_ba4f3_84 : decode cJ6_getChars_ba4f3 84 = .ok (.bastore, 1) := by decide +kernel
theorem dJ6_getChars_ba4f3_85 : decode cJ6_getChars_ba4f3 85 = .ok (.iload_n 0, 1) := by decide +kernel
theorem dJ6_getChars_ba4f3_86 : decode cJ6_getChars_ba4f3 86 = .ok (.bipush (-9), 2) := by decide +kernel
theorem dJ6_getChars_ba4f3_88 : decode cJ6_getChars_ba4f3 88 = .ok (.if_icmp .ge 16, 3) := by decide +kernel
theorem dJ6_getChars_ba4f3_91 : decode cJ6_getChars_ba4f3 91 = .ok (.aload_n 2, 1) := by decide +kernel
theorem dJ6_getChars_ba4f3_92 : decode cJ6_getChars_ba4f3 92 = .ok (.iinc 5 (-1), 3) := by decide +kernel
theorem dJ6_getChars_ba4f3_95 : decode cJ6_getChars_ba4f3 95 = .ok (.iload 5, 2) := by decide +kernel
theorem dJ6_getChars_ba4f3_97 : decode cJ6_getChars_ba4f3 97 = .ok (.getstatic 87, 3) := by decide +kernel
theorem dJ6_getChars_ba4f3_100 : decode cJ6_getChars_ba4f3 100 = .ok (.iload_n 0, 1) := by decide +kernel
theorem dJ6_getChars_ba4f3_101 : decode cJ6_getChars_ba4f3 101 = .ok (.ineg, 1) := by decide +kernel
theorem dJ6_getChars_ba4f3_102 : decode cJ6_getChars_ba4f3 102 = .ok (.baload, 1) := by decide +kernel
theorem dJ6_getChars_ba4f3_103 : decode cJ6_getChars_ba4f3 103 = .ok (.bastore, 1) := by decide +kernel
theorem dJ6_getChars_ba4f3_104 : decode cJ6_getChars_ba4f3 104 = .ok (.iload 6, 2) := by decide +kernel
theorem dJ6_getChars_ba4f3_106 : decode cJ6_getChars_ba4f3 106 = .ok (.ifCond .eq 12, 3) := by decide +kernel
theorem dJ6_getChars_ba4f3_109 : decode cJ6_getChars_ba4f3 109 = .ok (.aload_n 2, 1) := by decide +kernel
theorem dJ6_getChars_ba4f3_110 : decode cJ6_getChars_ba4f3 110 = .ok (.iinc 5 (-1), 3) := by decide +kernel
theorem dJ6_getChars_ba4f3_113 : decode cJ6_getChars_ba4f3 113 = .ok (.iload 5, 2) := by decide +kernel
theorem dJ6_getChars_ba4f3_115 : decode cJ6_getChars_ba4f3 115 = .ok (.bipush 45, 2) := by decide +kernel
theorem dJ6_getChars_ba4f3_117 : decode cJ6_getChars_ba4f3 117 = .ok (.bastore, 1) := by decide +kernel
theorem dJ6_getChars_ba4f3_118 : decode cJ6_getChars_ba4f3 118 = .ok (.iload 5, 2) := by decide +kernel
theorem dJ6_getChars_ba4f3_120 : decode cJ6_getChars_ba4f3 120 = .ok (.ireturn, 1) := by decide +kernel
theorem dJ6_stringSize_0f7a4_0 : decode cJ6_stringSize_0f7a4 0 = .ok (.iconst 1, 1) := by decide +kernel
theorem dJ6_stringSize_0f7a4_1 : decode cJ6_stringSize_0f7a4 1 = .ok (.istore_n 1, 1) := by decide +kernel
theorem dJ6_stringSize_0f7a4_2 : decode cJ6_stringSize_0f7a4 2 = .ok (.iload_n 0, 1) := by decide +kernel
theorem dJ6_stringSize_0f7a4_3 : decode cJ6_stringSize_0f7a4 3 = .ok (.ifCond .lt 8, 3) := by decide +kernel
theorem dJ6_stringSize_0f7a4_6 : decode cJ6_stringSize_0f7a4 6 = .ok (.iconst 0, 1) := by decide +kernel
theorem dJ6_stringSize_0f7a4_7 : decode cJ6_stringSize_0f7a4 7 = .ok (.istore_n 1, 1) := by decide +kernel
theorem dJ6_stringSize_0f7a4_8 : decode cJ6_stringSize_0f7a4 8 = .ok (.iload_n 0, 1) := by decide +kernel
theorem dJ6_stringSize_0f7a4_9 : decode cJ6_stringSize_0f7a4 9 = .ok (.ineg, 1) := by decide +kernel
theorem dJ6_stringSize_0f7a4_10 : decode cJ6_stringSize_0f7a4 10 = .ok (.istore_n 0, 1) := by decide +kernel
theorem dJ6_stringSize_0f7a4_11 : decode cJ6_stringSize_0f7a4 11 = .ok (.bipush (-10), 2) := by decide +kernel
theorem dJ6_stringSize_0f7a4_13 : decode cJ6_stringSize_0f7a4 13 = .ok (.istore_n 2, 1) := by decide +kernel
theorem dJ6_stringSize_0f7a4_14 : decode cJ6_stringSize_0f7a4 14 = .ok (.iconst 1, 1) := by decide +kernel
theorem dJ6_stringSize_0f7a4_15 : decode cJ6_stringSize_0f7a4 15 = .ok (.istore_n 3, 1) := by decide +kernel
theorem dJ6_stringSize_0f7a4_16 : decode cJ6_stringSize_0f7a4 16 = .ok (.iload_n 3, 1) := by decide +kernel
theorem dJ6_stringSize_0f7a4_17 : decode cJ6_stringSize_0f7a4 17 = .ok (.bipush 10, 2) := by decide +kernel
theorem dJ6_stringSize_0f7a4_19 : decode cJ6_stringSize_0f7a4 19 = .ok (.if_icmp .ge 23, 3) := by decide +kernel
theorem dJ6_stringSize_0f7a4_22 : decode cJ6_stringSize_0f7a4 22 = .ok (.iload_n 0, 1) := by decide +kernel
theorem dJ6_stringSize_0f7a4_23 : decode cJ6_stringSize_0f7a4 23 = .ok (.iload_n 2, 1) := by decide +kernel
theorem dJ6_stringSize_0f7a4_24 : decode cJ6_stringSize_0f7a4 24 = .ok (.if_icmp .le 7, 3) := by decide +kernel
theorem dJ6_stringSize_0f7a4_27 : decode cJ6_stringSize_0f7a4 27 = .ok (.iload_n 3, 1) := by decide +kernel
theorem dJ6_stringSize_0f7a4_28 : decode cJ6_stringSize_0f7a4 28 = .ok (.iload_n 1, 1) := by decide +kernel
theorem dJ6_stringSize_0f7a4_29 : decode cJ6_stringSize_0f7a4 29 = .ok (.iadd, 1) := by decide +kernel
theorem dJ6_stringSize_0f7a4_30 : decode cJ6_stringSize_0f7a4 30 = .ok (.ireturn, 1) := by decide +kernel
theorem dJ6_stringSize_0f7a4_31 : decode cJ6_stringSize_0f7a4 31 = .ok (.bipush 10, 2) := by decide +kernel
theorem dJ6_stringSize_0f7a4_33 : decode cJ6_stringSize_0f7a4 33 = .ok (.iload_n 2, 1) := by decide +kernel
theorem dJ6_stringSize_0f7a4_34 : decode cJ6_stringSize_0f7a4 34 = .ok (.imul, 1) := by decide +kernel
theorem dJ6_stringSize_0f7a4_35 : decode cJ6_stringSize_0f7a4 35 = .ok (.istore_n 2, 1) := by decide +kernel
theorem dJ6_stringSize_0f7a4_36 : decode cJ6_stringSize_0f7a4 36 = .ok (.iinc 3 1, 3) := by decide +kernel
theorem dJ6_stringSize_0f7a4_39 : decode cJ6_stringSize_0f7a4 39 = .ok (.goto (-23), 3) := by decide +kernel
theorem dJ6_stringSize_0f7a4_42 : decode cJ6_stringSize_0f7a4 42 = .ok (.bipush 10, 2) := by decide +kernel
theorem dJ6_stringSize_0f7a4_44 : decode cJ6_stringSize_0f7a4 44 = .ok (.iload_n 1, 1) := by decide +kernel
theorem dJ6_stringSize_0f7a4_45 : decode cJ6_stringSize_0f7a4 45 = .ok (.iadd, 1) := by decide +kernel
theorem dJ6_stringSize_0f7a4_46 : decode cJ6_stringSize_0f7a4 46 = .ok (.ireturn, 1) := by decide +kernel
theorem dJ9_max_7cf53_0 : decode cJ9_max_7cf53 0 = .ok (.iload_n 0, 1) := by decide +kernel
theorem dJ9_max_7cf53_1 : decode cJ9_max_7cf53 1 = .ok (.iload_n 1, 1) := by decide +kernel
theorem dJ9_max_7cf53_2 : decode cJ9_max_7cf53 2 = .ok (.if_icmp .lt 7, 3) := by decide +kernel
theorem dJ9_max_7cf53_5 : decode cJ9_max_7cf53 5 = .ok (.iload_n 0, 1) := by decide +kernel
theorem dJ9_max_7cf53_6 : decode cJ9_max_7cf53 6 = .ok (.goto 4, 3) := by decide +kernel
theorem dJ9_max_7cf53_9 : decode cJ9_max_7cf53 9 = .ok (.iload_n 1, 1) := by decide +kernel
theorem dJ9_max_7cf53_10 : decode cJ9_max_7cf53 10 = .ok (.ireturn, 1) := by decide +kernel
theorem dJ9_min_7cf53_0 : decode cJ9_min_7cf53 0 = .ok (.iload_n 0, 1) := by decide +kernel
theorem dJ9_min_7cf53_1 : decode cJ9_min_7cf53 1 = .ok (.iload_n 1, 1) := by decide +kernel
theorem dJ9_min_7cf53_2 : decode cJ9_min_7cf53 2 = .ok (.if_icmp .gt 7, 3) := by decide +kernel
theorem dJ9_min_7cf53_5 : decode cJ9_min_7cf53 5 = .ok (.iload_n 0, 1) := by decide +kernel
theorem dJ9_min_7cf53_6 : decode cJ9_min_7cf53 6 = .ok (.goto 4, 3) := by decide +kernel
theorem dJ9_min_7cf53_9 : decode cJ9_min_7cf53 9 = .ok (.iload_n 1, 1) := by decide +kernel
theorem dJ9_min_7cf53_10 : decode cJ9_min_7cf53 10 = .ok (.ireturn, 1) := by decide +kernel
theorem dJ0_init_81219_0 : decode cJ0_init_81219 0 = .ok (.aload_n 0, 1) := by decide +kernel
theorem dJ0_init_81219_1 : decode cJ0_init_81219 1 = .ok (.aload_n 1, 1) := by decide +kernel
theorem dJ0_init_81219_2 : decode cJ0_init_81219 2 = .ok (.aconst_null, 1) := by decide +kernel
theorem dJ0_init_81219_3 : decode cJ0_init_81219 3 = .ok (.invokespecial 489, 3) := by decide +kernel
theorem dJ0_init_81219_6 : decode cJ0_init_81219 6 = .ok (.return_, 1) := by decide +kernel
theorem dJ0_length_8abf5_0 : decode cJ0_length_8abf5 0 = .ok (.aload_n 0, 1) := by decide +kernel
theorem dJ0_length_8abf5_1 : decode cJ0_length_8abf5 1 = .ok (.getfield 9, 3) := by decide +kernel
theorem dJ0_length_8abf5_4 : decode cJ0_length_8abf5 4 = .ok (.arraylength, 1) := by decide +kernel
theorem dJ0_length_8abf5_5 : decode cJ0_length_8abf5 5 = .ok (.aload_n 0, 1) := by decide +kernel
theorem dJ0_length_8abf5_6 : decode cJ0_length_8abf5 6 = .ok (.invokevirtual 335, 3) := by decide +kernel
theorem dJ0_length_8abf5_9 : decode cJ0_length_8abf5 9 = .ok (.ishr, 1) := by decide +kernel
theorem dJ0_length_8abf5_10 : decode cJ0_length_8abf5 10 = .ok (.ireturn, 1) := by decide +kernel
theorem dJ0_charAt_5068e_0 : decode cJ0_charAt_5068e 0 = .ok (.aload_n 0, 1) := by decide +kernel
theorem dJ0_charAt_5068e_1 : decode cJ0_charAt_5068e 1 = .ok (.invokevirtual 492, 3) := by decide +kernel
theorem dJ0_charAt_5068e_4 : decode cJ0_charAt_5068e 4 = .ok (.ifCond .eq 12, 3) := by decide +kernel
theorem dJ0_charAt_5068e_7 : decode cJ0_charAt_5068e 7 = .ok (.aload_n 0, 1) := by decide +kernel
theorem dJ0_charAt_5068e_8 : decode cJ0_charAt_5068e 8 = .ok (.getfield 9, 3) := by decide +kernel
theorem dJ0_charAt_5068e_11 : decode cJ0_charAt_5068e 11 = .ok (.iload_n 1, 1) := by decide +kernel
theorem dJ0_charAt_5068e_12 : decode cJ0_charAt_5068e 12 = .ok (.invokestatic 495, 3) := by decide +kernel
theorem dJ0_charAt_5068e_15 : decode cJ0_charAt_5068e 15 = .ok (.ireturn, 1) := by decide +kernel
theorem dJ0_charAt_5068e_16 : decode cJ0_charAt_5068e 16 = .ok (.aload_n 0, 1) := by decide +kernel
theorem dJ0_charAt_5068e_17 : decode cJ0_charAt_5068e 17 = .ok (.getfield 9, 3) := by decide +kernel
theorem dJ0_charAt_5068e_20 : decode cJ0_charAt_5068e 20 = .ok (.iload_n 1, 1) := by decide +kernel
theorem dJ0_charAt_5068e_21 : decode cJ0_charAt_5068e 21 = .ok (.invokestatic 498, 3) := by decide +kernel
theorem dJ0_charAt_5068e_24 : decode cJ0_charAt_5068e 24 = .ok (.ireturn, 1) := by decide +kernel
theorem dJ0_getBytes_840e7_0 : decode cJ0_getBytes_840e7 0 = .ok (.aload_n 0, 1) := by decide +kernel
theorem dJ0_getBytes_840e7_1 : decode cJ0_getBytes_840e7 1 = .ok (.invokevirtual 335, 3) := by decide +kernel
theorem dJ0_getBytes_840e7_4 : decode cJ0_getBytes_840e7 4 = .ok (.iload_n 3, 1) := by decide +kernel
theorem dJ0_getBytes_840e7_5 : decode cJ0_getBytes_840e7 5 = .ok (.if_icmp .ne 23, 3) := by decide +kernel
theorem dJ0_getBytes_840e7_8 : decode cJ0_getBytes_840e7 8 = .ok (.aload_n 0, 1) := by decide +kernel
theorem dJ0_getBytes_840e7_9 : decode cJ0_getBytes_840e7 9 = .ok (.getfield 9, 3) := by decide +kernel
theorem dJ0_getBytes_840e7_12 : decode cJ0_getBytes_840e7 12 = .ok (.iconst 0, 1) := by decide +kernel
theorem dJ0_getBytes_840e7_13 : decode cJ0_getBytes_840e7 13 = .ok (.aload_n 1, 1) := by decide +kernel
theorem dJ0_getBytes_840e7_14 : decode cJ0_getBytes_840e7 14 = .ok (.iload_n 2, 1) := by decide +kernel
theorem dJ0_getBytes_840e7_15 : decode cJ0_getBytes_840e7 15 = .ok (.iload_n 3, 1) := by decide +kernel
theorem dJ0_getBytes_840e7_16 : decode cJ0_getBytes_840e7 16 = .ok (.ishl, 1) := by decide +kernel
theorem dJ0_getBytes_840e7_17 : decode cJ0_getBytes_840e7 17 = .ok (.aload_n 0, 1) := by decide +kernel
theorem dJ0_getBytes_840e7_18 : decode cJ0_getBytes_840e7 18 = .ok (.getfield 9, 3) := by decide +kernel
theorem dJ0_getBytes_840e7_21 : decode cJ0_getBytes_840e7 21 = .ok (.arraylength, 1) := by decide +kernel
theorem dJ0_getBytes_840e7_22 : decode cJ0_getBytes_840e7 22 = .ok (.invokestatic 212, 3) := by decide +kernel
theorem dJ0_getBytes_840e7_25 : decode cJ0_getBytes_840e7 25 = .ok (.goto 18, 3) := by decide +kernel
theorem dJ0_getBytes_840e7_28 : decode cJ0_getBytes_840e7 28 = .ok (.aload_n 0, 1) := by decide +kernel
theorem dJ0_getBytes_840e7_29 : decode cJ0_getBytes_840e7 29 = .ok (.getfield 9, 3) := by decide +kernel
theorem dJ0_getBytes_840e7_32 : decode cJ0_getBytes_840e7 32 = .ok (.iconst 0, 1) := by decide +kernel
theorem dJ0_getBytes_840e7_33 : decode cJ0_getBytes_840e7 33 = .ok (.aload_n 1, 1) := by decide +kernel
theorem dJ0_getBytes_840e7_34 : decode cJ0_getBytes_840e7 34 = .ok (.iload_n 2, 1) := by decide +kernel
theorem dJ0_getBytes_840e7_35 : decode cJ0_getBytes_840e7 35 = .ok (.aload_n 0, 1) := by decide +kernel
theorem dJ0_getBytes_840e7_36 : decode cJ0_getBytes_840e7 36 = .ok (.getfield 9, 3) := by decide +kernel
theorem dJ0_getBytes_840e7_39 : decode cJ0_getBytes_840e7 39 = .ok (.arraylength, 1) := by decide +kernel
theorem dJ0_getBytes_840e7_40 : decode cJ0_getBytes_840e7 40 = .ok (.invokestatic 106, 3) := by decide +kernel
theorem dJ0_getBytes_840e7_43 : decode cJ0_getBytes_840e7 43 = .ok (.return_, 1) := by decide +kernel
theorem dJ0_init_db425_0 : decode cJ0_init_db425 0 = .ok (.aload_n 0, 1) := by decide +kernel
theorem dJ0_init_db425_1 : decode cJ0_init_db425 1 = .ok (.invokespecial 1, 3) := by decide +kernel
theorem dJ0_init_db425_4 : decode cJ0_init_db425 4 = .ok (.aload_n 1, 1) := by decide +kernel
theorem dJ0_init_db425_5 : decode cJ0_init_db425 5 = .ok (.invokevirtual 552, 3) := by decide +kernel
theorem dJ0_init_db425_8 : decode cJ0_init_db425 8 = .ok (.astore_n 3, 1) := by decide +kernel
theorem dJ0_init_db425_9 : decode cJ0_init_db425 9 = .ok (.aload_n 1, 1) := by decide +kernel
theorem dJ0_init_db425_10 : decode cJ0_init_db425 10 = .ok (.invokevirtual 549, 3) := by decide +kernel
theorem dJ0_init_db425_13 : decode cJ0_init_db425 13 = .ok (.istore 4, 2) := by decide +kernel
theorem dJ0_init_db425_15 : decode cJ0_init_db425 15 = .ok (.aload_n 1, 1) := by decide +kernel
theorem dJ0_init_db425_16 : decode cJ0_init_db425 16 = .ok (.invokevirtual 1047, 3) := by decide +kernel
theorem dJ0_init_db425_19 : decode cJ0_init_db425 19 = .ok (.ifCond .eq 22, 3) := by decide +kernel
theorem dJ0_init_db425_22 : decode cJ0_init_db425 22 = .ok (.aload_n 0, 1) := by decide +kernel
theorem dJ0_init_db425_23 : decode cJ0_init_db425 23 = .ok (.iconst 0, 1) := by decide +kernel
theorem dJ0_init_db425_24 : decode cJ0_init_db425 24 = .ok (.putfield 15, 3) := by decide +kernel
theorem dJ0_init_db425_27 : decode cJ0_init_db425 27 = .ok (.aload_n 0, 1) := by decide +kernel
theorem dJ0_init_db425_28 : decode cJ0_init_db425 28 = .ok (.aload_n 3, 1) := by decide +kernel
theorem dJ0_init_db425_29 : decode cJ0_init_db425 29 = .ok (.iconst 0, 1) := by decide +kernel
theorem dJ0_init_db425_30 : decode cJ0_init_db425 30 = .ok (.iload 4, 2) := by decide +kernel
theorem dJ0_init_db425_32 : decode cJ0_init_db425 32 = .ok (.invokestatic 54, 3) := by decide +kernel
theorem dJ0_init_db425_35 : decode cJ0_init_db425 35 = .ok (.putfield 9, 3) := by decide +kernel
theorem dJ0_init_db425_38 : decode cJ0_init_db425 38 = .ok (.goto 59, 3) := by decide +kernel
theorem dJ0_init_db425_41 : decode cJ0_init_db425 41 = .ok (.getstatic 38, 3) := by decide +kernel
theorem dJ0_init_db425_44 : decode cJ0_init_db425 44 = .ok (.ifCond .eq 35, 3) := by decide +kernel
theorem dJ0_init_db425_47 : decode cJ0_init_db425 47 = .ok (.aload_n 1, 1) := by decide +kernel
theorem dJ0_init_db425_48 : decode cJ0_init_db425 48 = .ok (.getfield 1048, 3) := by decide +kernel
theorem dJ0_init_db425_51 : decode cJ0_init_db425 51 = .ok (.ifCond .eq 28, 3) := by decide +kernel
theorem dJ0_init_db425_54 : decode cJ0_init_db425 54 = .ok (.aload_n 0, 1) := by decide +kernel
theorem dJ0_init_db425_55 : decode cJ0_init_db425 55 = .ok (.aload_n 3, 1) := by decide +kernel
theorem dJ0_init_db425_56 : decode cJ0_init_db425 56 = .ok (.iconst 0, 1) := by decide +kernel
theorem dJ0_init_db425_57 : decode cJ0_init_db425 57 = .ok (.iload 4, 2) := by decide +kernel
theorem dJ0_init_db425_59 : decode cJ0_init_db425 59 = .ok (.invokestatic 1051, 3) := by decide +kernel
theorem dJ0_init_db425_62 : decode cJ0_init_db425 62 = .ok (.putfield 9, 3) := by decide +kernel
theorem dJ0_init_db425_65 : decode cJ0_init_db425 65 = .ok (.aload_n 0, 1) := by decide +kernel
theorem dJ0_init_db425_66 : decode cJ0_init_db425 66 = .ok (.aload_n 0, 1) := by decide +kernel
theorem dJ0_init_db425_67 : decode cJ0_init_db425 67 = .ok (.getfield 9, 3) := by decide +kernel
theorem dJ0_init_db425_70 : decode cJ0_init_db425 70 = .ok (.iload 4, 2) := by decide +kernel
theorem dJ0_init_db425_72 : decode cJ0_init_db425 72 = .ok (.invokestatic 47, 3) := by decide +kernel
theorem dJ0_init_db425_75 : decode cJ0_init_db425 75 = .ok (.putfield 15, 3) := by decide +kernel
theorem dJ0_init_db425_78 : decode cJ0_init_db425 78 = .ok (.return_, 1) := by decide +kernel
theorem dJ0_init_db425_79 : decode cJ0_init_db425 79 = .ok (.aload_n 0, 1) := by decide +kernel
theorem dJ0_init_db425_80 : decode cJ0_init_db425 80 = .ok (.iconst 1, 1) := by decide +kernel
theorem dJ0_init_db425_81 : decode cJ0_init_db425 81 = .ok (.putfield 15, 3) := by decide +kernel
theorem dJ0_init_db425_84 : decode cJ0_init_db425 84 = .ok (.aload_n 0, 1) := by decide +kernel
theorem dJ0_init_db425_85 : decode cJ0_init_db425 85 = .ok (.aload_n 3, 1) := by decide +kernel
theorem dJ0_init_db425_86 : decode cJ0_init_db425 86 = .ok (.iconst 0, 1) := by decide +kernel
theorem dJ0_init_db425_87 : decode cJ0_init_db425 87 = .ok (.iload 4, 2) := by decide +kernel
theorem dJ0_init_db425_89 : decode cJ0_init_db425 89 = .ok (.iconst 1, 1) := by decide +kernel
theorem dJ0_init_db425_90 : decode cJ0_init_db425 90 = .ok (.ishl, 1) := by decide +kernel
theorem dJ0_init_db425_91 : decode cJ0_init_db425 91 = .ok (.invokestatic 54, 3) := by decide +kernel
theorem dJ0_init_db425_94 : decode cJ0_init_db425 94 = .ok (.putfield 9, 3) := by decide +kernel
theorem dJ0_init_db425_97 : decode cJ0_init_db425 97 = .ok (.return_, 1) := by decide +kernel
theorem dJ0_coder_7d493_0 : decode cJ0_coder_7d493 0 = .ok (.getstatic 38, 3) := by decide +kernel
theorem dJ0_coder_7d493_3 : decode cJ0_coder_7d493 3 = .ok (.ifCond .eq 10, 3) := by decide +kernel
theorem dJ0_coder_7d493_6 : decode cJ0_coder_7d493 6 = .ok (.aload_n 0, 1) := by decide +kernel
theorem dJ0_coder_7d493_7 : decode cJ0_coder_7d493 7 = .ok (.getfield 15, 3) := by decide +kernel
theorem dJ0_coder_7d493_10 : decode cJ0_coder_7d493 10 = .ok (.goto 4, 3) := by decide +kernel
theorem dJ0_coder_7d493_13 : decode cJ0_coder_7d493 13 = .ok (.iconst 1, 1) := by decide +kernel
theorem dJ0_coder_7d493_14 : decode cJ0_coder_7d493 14 = .ok (.ireturn, 1) := by decide +kernel
theorem dJ0_isLatin1_aae02_0 : decode cJ0_isLatin1_aae02 0 = .ok (.getstatic 38, 3) := by decide +kernel
theorem dJ0_isLatin1_aae02_3 : decode cJ0_isLatin1_aae02 3 = .ok (.ifCond .eq 14, 3) := by decide +kernel
theorem dJ0_isLatin1_aae02_6 : decode cJ0_isLatin1_aae02 6 = .ok (.aload_n 0, 1) := by decide +kernel
theorem dJ0_isLatin1_aae02_7 : decode cJ0_isLatin1_aae02 7 = .ok (.getfield 15, 3) := by decide +kernel
theorem dJ0_isLatin1_aae02_10 : decode cJ0_isLatin1_aae02 10 = .ok (.ifCond .ne 7, 3) := by decide +kernel
theorem dJ0_isLatin1_aae02_13 : decode cJ0_isLatin1_aae02 13 = .ok (.iconst 1, 1) := by decide +kernel
theorem dJ0_isLatin1_aae02_14 : decode cJ0_isLatin1_aae02 14 = .ok (.goto 4, 3) := by decide +kernel
theorem dJ0_isLatin1_aae02_17 : decode cJ0_isLatin1_aae02 17 = .ok (.iconst 0, 1) := by decide +kernel
theorem dJ0_isLatin1_aae02_18 : decode cJ0_isLatin1_aae02 18 = .ok (.ireturn, 1) := by decide +kernel
theorem dJ0_checkIndex_df160_0 : decode cJ0_checkIndex_df160 0 = .ok (.iload_n 0, 1) := by decide +kernel
theorem dJ0_checkIndex_df160_1 : decode cJ0_checkIndex_df160 1 = .ok (.iload_n 1, 1) := by decide +kernel
theorem dJ0_checkIndex_df160_2 : decode cJ0_checkIndex_df160 2 = .ok (.getstatic 1053, 3) := by decide +kernel
theorem dJ0_checkIndex_df160_5 : decode cJ0_checkIndex_df160 5 = .ok (.invokestatic 1059, 3) := by decide +kernel
theorem dJ0_checkIndex_df160_8 : decode cJ0_checkIndex_df160 8 = .ok (.pop, 1) := by decide +kernel
theorem dJ0_checkIndex_df160_9 : decode cJ0_checkIndex_df160 9 = .ok (.return_, 1) := by decide +kernel
theorem dJ0_checkBoundsOffCount_cabcc_0 : decode cJ0_checkBoundsOffCount_cabcc 0 = .ok (.iload_n 0, 1) := by decide +kernel
theorem dJ0_checkBoundsOffCount_cabcc_1 : decode cJ0_checkBoundsOffCount_cabcc 1 = .ok (.iload_n 1, 1) := by decide +kernel
theorem dJ0_checkBoundsOffCount_cabcc_2 : decode cJ0_checkBoundsOffCount_cabcc 2 = .ok (.iload_n 2, 1) := by decide +kernel
theorem dJ0_checkBoundsOffCount_cabcc_3 : decode cJ0_checkBoundsOffCount_cabcc 3 = .ok (.getstatic 1053, 3) := by decide +kernel
theorem dJ0_checkBoundsOffCount_cabcc_6 : decode cJ0_checkBoundsOffCount_cabcc 6 = .ok (.invokestatic 1065, 3) := by decide +kernel
theorem dJ0_checkBoundsOffCount_cabcc_9 : decode cJ0_checkBoundsOffCount_cabcc 9 = .ok (.ireturn, 1) := by decide +kernel
theorem dJ0_checkBoundsBeginEnd_23922_0 : decode cJ0_checkBoundsBeginEnd_23922 0 = .ok (.iload_n 0, 1) := by decide +kernel
theorem dJ0_checkBoundsBeginEnd_23922_1 : decode cJ0_checkBoundsBeginEnd_23922 1 = .ok (.iload_n 1, 1) := by decide +kernel
theorem dJ0_checkBoundsBeginEnd_23922_2 : decode cJ0_checkBoundsBeginEnd_23922 2 = .ok (.iload_n 2, 1) := by decide +kernel
theorem dJ0_checkBoundsBeginEnd_23922_3 : decode cJ0_checkBoundsBeginEnd_23922 3 = .ok (.getstatic 1053, 3) := by decide +kernel
theorem dJ0_checkBoundsBeginEnd_23922_6 : decode cJ0_checkBoundsBeginEnd_23922 6 = .ok (.invokestatic 1062, 3) := by decide +kernel
theorem dJ0_checkBoundsBeginEnd_23922_9 : decode cJ0_checkBoundsBeginEnd_23922 9 = .ok (.pop, 1) := by decide +kernel
theorem dJ0_checkBoundsBeginEnd_23922_10 : decode cJ0_checkBoundsBeginEnd_23922 10 = .ok (.return_, 1) := by decide +kernel
theorem dJ4_init_a7421_0 : decode cJ4_init_a7421 0 = .ok (.aload_n 0, 1) := by decide +kernel
theorem dJ4_init_a7421_1 : decode cJ4_init_a7421 1 = .ok (.aload_n 1, 1) := by decide +kernel
theorem dJ4_init_a7421_2 : decode cJ4_init_a7421 2 = .ok (.invokespecial 7, 3) := by decide +kernel
theorem dJ4_init_a7421_5 : decode cJ4_init_a7421 5 = .ok (.return_, 1) := by decide +kernel
theorem dJ4_append_15ec4_0 : decode cJ4_append_15ec4 0 = .ok (.aload_n 0, 1) := by decide +kernel
theorem dJ4_append_15ec4_1 : decode cJ4_append_15ec4 1 = .ok (.aload_n 1, 1) := by decide +kernel
theorem dJ4_append_15ec4_2 : decode cJ4_append_15ec4 2 = .ok (.invokespecial 29, 3) := by decide +kernel
theorem dJ4_append_15ec4_5 : decode cJ4_append_15ec4 5 = .ok (.pop, 1) := by decide +kernel
theorem dJ4_append_15ec4_6 : decode cJ4_append_15ec4 6 = .ok (.aload_n 0, 1) := by decide +kernel
theorem dJ4_append_15ec4_7 : decode cJ4_append_15ec4 7 = .ok (.areturn, 1) := by decide +kernel
theorem dJ4_append_cf468_0 : decode cJ4_append_cf468 0 = .ok (.aload_n 0, 1) := by decide +kernel
theorem dJ4_append_cf468_1 : decode cJ4_append_cf468 1 = .ok (.iload_n 1, 1) := by decide +kernel
theorem dJ4_append_cf468_2 : decode cJ4_append_cf468 2 = .ok (.invokespecial 50, 3) := by decide +kernel
theorem dJ4_append_cf468_5 : decode cJ4_append_cf468 5 = .ok (.pop, 1) := by decide +kernel
theorem dJ4_append_cf468_6 : decode cJ4_append_cf468 6 = .ok (.aload_n 0, 1) := by decide +kernel
theorem dJ4_append_cf468_7 : decode cJ4_append_cf468 7 = .ok (.areturn, 1) := by decide +kernel
theorem dJ4_append_bf812_0 : decode cJ4_append_bf812 0 = .ok (.aload_n 0, 1) := by decide +kernel
theorem dJ4_append_bf812_1 : decode cJ4_append_bf812 1 = .ok (.iload_n 1, 1) := by decide +kernel
theorem dJ4_append_bf812_2 : decode cJ4_append_bf812 2 = .ok (.invokespecial 53, 3) := by decide +kernel
theorem dJ4_append_bf812_5 : decode cJ4_append_bf812 5 = .ok (.pop, 1) := by decide +kernel
theorem dJ4_append_bf812_6 : decode cJ4_append_bf812 6 = .ok (.aload_n 0, 1) := by decide +kernel
theorem dJ4_append_bf812_7 : decode cJ4_append_bf812 7 = .ok (.areturn, 1) := by decide +kernel
theorem dJ4_toString_0e30d_0 : decode cJ4_toString_0e30d 0 = .ok (.new 18, 3) := by decide +kernel
theorem dJ4_toString_0e30d_3 : decode cJ4_toString_0e30d 3 = .ok (.dup, 1) := by decide +kernel
theorem dJ4_toString_0e30d_4 : decode cJ4_toString_0e30d 4 = .ok (.aload_n 0, 1) := by decide +kernel
theorem dJ4_toString_0e30d_5 : decode cJ4_toString_0e30d 5 = .ok (.invokespecial 137, 3) := by decide +kernel
theorem dJ4_toString_0e30d_8 : decode cJ4_toString_0e30d 8 = .ok (.areturn, 1) := by decide +kernel
theorem dJ4_append_cf1ce_0 : decode cJ4_append_cf1ce 0 = .ok (.aload_n 0, 1) := by decide +kernel
theorem dJ4_append_cf1ce_1 : decode cJ4_append_cf1ce 1 = .ok (.aload_n 1, 1) := by decide +kernel
theorem dJ4_append_cf1ce_2 : decode cJ4_append_cf1ce 2 = .ok (.invokevirtual 23, 3) := by decide +kernel
theorem dJ4_append_cf1ce_5 : decode cJ4_append_cf1ce 5 = .ok (.areturn, 1) := by decide +kernel
theorem dJ4_length_8abf5_0 : decode cJ4_length_8abf5 0 = .ok (.aload_n 0, 1) := by decide +kernel
theorem dJ4_length_8abf5_1 : decode cJ4_length_8abf5 1 = .ok (.invokespecial 343, 3) := by decide +kernel
theorem dJ4_length_8abf5_4 : decode cJ4_length_8abf5 4 = .ok (.ireturn, 1) := by decide +kernel
theorem dJ1_charAt_3b067_0 : decode cJ1_charAt_3b067 0 = .ok (.iload_n 1, 1) := by decide +kernel
theorem dJ1_charAt_3b067_1 : decode cJ1_charAt_3b067 1 = .ok (.aload_n 0, 1) := by decide +kernel
theorem dJ1_charAt_3b067_2 : decode cJ1_charAt_3b067 2 = .ok (.arraylength, 1) := by decide +kernel
theorem dJ1_charAt_3b067_3 : decode cJ1_charAt_3b067 3 = .ok (.invokestatic 9, 3) := by decide +kernel
theorem dJ1_charAt_3b067_6 : decode cJ1_charAt_3b067 6 = .ok (.aload_n 0, 1) := by decide +kernel
theorem dJ1_charAt_3b067_7 : decode cJ1_charAt_3b067 7 = .ok (.iload_n 1, 1) := by decide +kernel
theorem dJ1_charAt_3b067_8 : decode cJ1_charAt_3b067 8 = .ok (.baload, 1) := by decide +kernel
theorem dJ1_charAt_3b067_9 : decode cJ1_charAt_3b067 9 = .ok (.sipush 255, 3) := by decide +kernel
theorem dJ1_charAt_3b067_12 : decode cJ1_charAt_3b067 12 = .ok (.iand, 1) := by decide +kernel
theorem dJ1_charAt_3b067_13 : decode cJ1_charAt_3b067 13 = .ok (.i2c, 1) := by decide +kernel
theorem dJ1_charAt_3b067_14 : decode cJ1_charAt_3b067 14 = .ok (.ireturn, 1) := by decide +kernel
theorem dJ1_canEncode_fc78d_0 : decode cJ1_canEncode_fc78d 0 = .ok (.iload_n 0, 1) := by decide +kernel
theorem dJ1_canEncode_fc78d_1 : decode cJ1_canEncode_fc78d 1 = .ok (.sipush 255, 3) := by decide +kernel
theorem dJ1_canEncode_fc78d_4 : decode cJ1_canEncode_fc78d 4 = .ok (.if_icmp .gt 7, 3) := by decide +kernel
theorem dJ1_canEncode_fc78d_7 : decode cJ1_canEncode_fc78d 7 = .ok (.iconst 1, 1) := by decide +kernel
theorem dJ1_canEncode_fc78d_8 : decode cJ1_canEncode_fc78d 8 = .ok (.goto 4, 3) := by decide +kernel
theorem dJ1_canEncode_fc78d_11 : decode cJ1_canEncode_fc78d 11 = .ok (.iconst 0, 1) := by decide +kernel
theorem dJ1_canEncode_fc78d_12 : decode cJ1_canEncode_fc78d 12 = .ok (.ireturn, 1) := by decide +kernel
theorem dJ1_inflate_0e8fd_0 : decode cJ1_inflate_0e8fd 0 = .ok (.aload_n 0, 1) := by decide +kernel
theorem dJ1_inflate_0e8fd_1 : decode cJ1_inflate_0e8fd 1 = .ok (.iload_n 1, 1) := by decide +kernel
theorem dJ1_inflate_0e8fd_2 : decode cJ1_inflate_0e8fd 2 = .ok (.aload_n 2, 1) := by decide +kernel
theorem dJ1_inflate_0e8fd_3 : decode cJ1_inflate_0e8fd 3 = .ok (.iload_n 3, 1) := by decide +kernel
theorem dJ1_inflate_0e8fd_4 : decode cJ1_inflate_0e8fd 4 = .ok (.iload 4, 2) := by decide +kernel
theorem dJ1_inflate_0e8fd_6 : decode cJ1_inflate_0e8fd 6 = .ok (.invokestatic 240, 3) := by decide +kernel
theorem dJ1_inflate_0e8fd_9 : decode cJ1_inflate_0e8fd 9 = .ok (.return_, 1) := by decide +kernel
theorem dJ2_newBytesFor_77867_0 : decode cJ2_newBytesFor_77867 0 = .ok (.iload_n 0, 1) := by decide +kernel
theorem dJ2_newBytesFor_77867_1 : decode cJ2_newBytesFor_77867 1 = .ok (.invokestatic 11, 3) := by decide +kernel
theorem dJ2_newBytesFor_77867_4 : decode cJ2_newBytesFor_77867 4 = .ok (.newarray .byte, 2) := by decide +kernel
theorem dJ2_newBytesFor_77867_6 : decode cJ2_newBytesFor_77867 6 = .ok (.areturn, 1) := by decide +kernel
theorem dJ2_newBytesLength_0f7a4_0 : decode cJ2_newBytesLength_0f7a4 0 = .ok (.iload_n 0, 1) := by decide +kernel
theorem dJ2_newBytesLength_0f7a4_1 : decode cJ2_newBytesLength_0f7a4 1 = .ok (.ifCond .ge 11, 3) := by decide +kernel
theorem dJ2_newBytesLength_0f7a4_4 : decode cJ2_newBytesLength_0f7a4 4 = .ok (.new 17, 3) := by decide +kernel
theorem dJ2_newBytesLength_0f7a4_7 : decode cJ2_newBytesLength_0f7a4 7 = .ok (.dup, 1) := by decide +kernel
theorem dJ2_newBytesLength_0f7a4_8 : decode cJ2_newBytesLength_0f7a4 8 = .ok (.invokespecial 19, 3) := by decide +kernel
theorem dJ2_newBytesLength_0f7a4_11 : decode cJ2_newBytesLength_0f7a4 11 = .ok (.athrow, 1) := by decide +kernel
theorem dJ2_newBytesLength_0f7a4_12 : decode cJ2_newBytesLength_0f7a4 12 = .ok (.iload_n 0, 1) := by decide +kernel
theorem dJ2_newBytesLength_0f7a4_13 : decode cJ2_newBytesLength_0f7a4 13 = .ok (.ldc 20, 2) := by decide +kernel
theorem dJ2_newBytesLength_0f7a4_15 : decode cJ2_newBytesLength_0f7a4 15 = .ok (.if_icmp .lt 40, 3) := by decide +kernel
theorem dJ2_newBytesLength_0f7a4_18 : decode cJ2_newBytesLength_0f7a4 18 = .ok (.new 21, 3) := by decide +kernel
theorem dJ2_newBytesLength_0f7a4_21 : decode cJ2_newBytesLength_0f7a4 21 = .ok (.dup, 1) := by decide +kernel
theorem dJ2_newBytesLength_0f7a4_22 : decode cJ2_newBytesLength_0f7a4 22 = .ok (.new 23, 3) := by decide +kernel
theorem dJ2_newBytesLength_0f7a4_25 : decode cJ2_newBytesLength_0f7a4 25 = .ok (.dup, 1) := by decide +kernel
theorem dJ2_newBytesLength_0f7a4_26 : decode cJ2_newBytesLength_0f7a4 26 = .ok (.invokespecial 25, 3) := by decide +kernel
theorem dJ2_newBytesLength_0f7a4_29 : decode cJ2_newBytesLength_0f7a4 29 = .ok (.ldc 26, 2) := by decide +kernel
theorem dJ2_newBytesLength_0f7a4_31 : decode cJ2_newBytesLength_0f7a4 31 = .ok (.invokevirtual 28, 3) := by decide +kernel
theorem dJ2_newBytesLength_0f7a4_34 : decode cJ2_newBytesLength_0f7a4 34 = .ok (.iload_n 0, 1) := by decide +kernel
theorem dJ2_newBytesLength_0f7a4_35 : decode cJ2_newBytesLength_0f7a4 35 = .ok (.invokevirtual 32, 3) := by decide +kernel
theorem dJ2_newBytesLength_0f7a4_38 : decode cJ2_newBytesLength_0f7a4 38 = .ok (.ldc 35, 2) := by decide +kernel
theorem dJ2_newBytesLength_0f7a4_40 : decode cJ2_newBytesLength_0f7a4 40 = .ok (.invokevirtual 28, 3) := by decide +kernel
theorem dJ2_newBytesLength_0f7a4_43 : decode cJ2_newBytesLength_0f7a4 43 = .ok (.ldc 20, 2) := by decide +kernel
theorem dJ2_newBytesLength_0f7a4_45 : decode cJ2_newBytesLength_0f7a4 45 = .ok (.invokevirtual 32, 3) := by decide +kernel
theorem dJ2_newBytesLength_0f7a4_48 : decode cJ2_newBytesLength_0f7a4 48 = .ok (.invokevirtual 37, 3) := by decide +kernel
theorem dJ2_newBytesLength_0f7a4_51 : decode cJ2_newBytesLength_0f7a4 51 = .ok (.invokespecial 41, 3) := by decide +kernel
theorem dJ2_newBytesLength_0f7a4_54 : decode cJ2_newBytesLength_0f7a4 54 = .ok (.athrow, 1) := by decide +kernel
theorem dJ2_newBytesLength_0f7a4_55 : decode cJ2_newBytesLength_0f7a4 55 = .ok (.iload_n 0, 1) := by decide +kernel
theorem dJ2_newBytesLength_0f7a4_56 : decode cJ2_newBytesLength_0f7a4 56 = .ok (.iconst 1, 1) := by decide +kernel
theorem dJ2_newBytesLength_0f7a4_57 : decode cJ2_newBytesLength_0f7a4 57 = .ok (.ishl, 1) := by decide +kernel
theorem dJ2_newBytesLength_0f7a4_58 : decode cJ2_newBytesLength_0f7a4 58 = .ok (.ireturn, 1) := by decide +kernel
theorem dJ2_putChar_b72d1_0 : decode cJ2_putChar_b72d1 0 = .ok (.getstatic 44, 3) := by decide +kernel
theorem dJ2_putChar_b72d1_3 : decode cJ2_putChar_b72d1 3 = .ok (.ifCond .ne 25, 3) := by decide +kernel
theorem dJ2_putChar_b72d1_6 : decode cJ2_putChar_b72d1 6 = .ok (.iload_n 1, 1) := by decide +kernel
theorem dJ2_putChar_b72d1_7 : decode cJ2_putChar_b72d1 7 = .ok (.ifCond .lt 11, 3) := by decide +kernel
theorem dJ2_putChar_b72d1_10 : decode cJ2_putChar_b72d1 10 = .ok (.iload_n 1, 1) := by decide +kernel
theorem dJ2_putChar_b72d1_11 : decode cJ2_putChar_b72d1 11 = .ok (.aload_n 0, 1) := by decide +kernel
theorem dJ2_putChar_b72d1_12 : decode cJ2_putChar_b72d1 12 = .ok (.invokestatic 48, 3) := by decide +kernel
theorem dJ2_putChar_b72d1_15 : decode cJ2_putChar_b72d1 15 = .ok (.if_icmp .lt 13, 3) := by decide +kernel
theorem dJ2_putChar_b72d1_18 : decode cJ2_putChar_b72d1 18 = .ok (.new 52, 3) := by decide +kernel
theorem dJ2_putChar_b72d1_21 : decode cJ2_putChar_b72d1 21 = .ok (.dup, 1) := by decide +kernel
theorem dJ2_putChar_b72d1_22 : decode cJ2_putChar_b72d1 22 = .ok (.ldc 54, 2) := by decide +kernel
theorem dJ2_putChar_b72d1_24 : decode cJ2_putChar_b72d1 24 = .ok (.invokespecial 56, 3) := by decide +kernel
theorem dJ2_putChar_b72d1_27 : decode cJ2_putChar_b72d1 27 = .ok (.athrow, 1) := by decide +kernel
theorem dJ2_putChar_b72d1_28 : decode cJ2_putChar_b72d1 28 = .ok (.iload_n 1, 1) := by decide +kernel
theorem dJ2_putChar_b72d1_29 : decode cJ2_putChar_b72d1 29 = .ok (.iconst 1, 1) := by decide +kernel
theorem dJ2_putChar_b72d1_30 : decode cJ2_putChar_b72d1 30 = .ok (.ishl, 1) := by decide +kernel
theorem dJ2_putChar_b72d1_31 : decode cJ2_putChar_b72d1 31 = .ok (.istore_n 1, 1) := by decide +kernel
theorem dJ2_putChar_b72d1_32 : decode cJ2_putChar_b72d1 32 = .ok (.aload_n 0, 1) := by decide +kernel
theorem dJ2_putChar_b72d1_33 : decode cJ2_putChar_b72d1 33 = .ok (.iload_n 1, 1) := by decide +kernel
theorem dJ2_putChar_b72d1_34 : decode cJ2_putChar_b72d1 34 = .ok (.iinc 1 1, 3) := by decide +kernel
theorem dJ2_putChar_b72d1_37 : decode cJ2_putChar_b72d1 37 = .ok (.iload_n 2, 1) := by decide +kernel
theorem dJ2_putChar_b72d1_38 : decode cJ2_putChar_b72d1 38 = .ok (.getstatic 59, 3) := by decide +kernel
theorem dJ2_putChar_b72d1_41 : decode cJ2_putChar_b72d1 41 = .ok (.ishr, 1) := by decide +kernel
theorem dJ2_putChar_b72d1_42 : decode cJ2_putChar_b72d1 42 = .ok (.i2b, 1) := by decide +kernel
theorem dJ2_putChar_b72d1_43 : decode cJ2_putChar_b72d1 43 = .ok (.bastore, 1) := by decide +kernel
theorem dJ2_putChar_b72d1_44 : decode cJ2_putChar_b72d1 44 = .ok (.aload_n 0, 1) := by decide +kernel
theorem dJ2_putChar_b72d1_45 : decode cJ2_putChar_b72d1 45 = .ok (.iload_n 1, 1) := by decide +kernel
theorem dJ2_putChar_b72d1_46 : decode cJ2_putChar_b72d1 46 = .ok (.iload_n 2, 1) := by decide +kernel
theorem dJ2_putChar_b72d1_47 : decode cJ2_putChar_b72d1 47 = .ok (.getstatic 63, 3) := by decide +kernel
theorem dJ2_putChar_b72d1_50 : decode cJ2_putChar_b72d1 50 = .ok (.ishr, 1) := by decide +kernel
theorem dJ2_putChar_b72d1_51 : decode cJ2_putChar_b72d1 51 = .ok (.i2b, 1) := by decide +kernel
theorem dJ2_putChar_b72d1_52 : decode cJ2_putChar_b72d1 52 = .ok (.bastore, 1) := by decide +kernel
theorem dJ2_putChar_b72d1_53 : decode cJ2_putChar_b72d1 53 = .ok (.return_, 1) := by decide +kernel
theorem dJ2_getChar_3b067_0 : decode cJ2_getChar_3b067 0 = .ok (.getstatic 44, 3) := by decide +kernel
theorem dJ2_getChar_3b067_3 : decode cJ2_getChar_3b067 3 = .ok (.ifCond .ne 25, 3) := by decide +kernel
theorem dJ2_getChar_3b067_6 : decode cJ2_getChar_3b067 6 = .ok (.iload_n 1, 1) := by decide +kernel
theorem dJ2_getChar_3b067_7 : decode cJ2_getChar_3b067 7 = .ok (.ifCond .lt 11, 3) := by decide +kernel
theorem dJ2_getChar_3b067_10 : decode cJ2_getChar_3b067 10 = .ok (.iload_n 1, 1) := by decide +kernel
theorem dJ2_getChar_3b067_11 : decode cJ2_getChar_3b067 11 = .ok (.aload_n 0, 1) := by decide +kernel
theorem dJ2_getChar_3b067_12 : decode cJ2_getChar_3b067 12 = .ok (.invokestatic 48, 3) := by decide +kernel
theorem dJ2_getChar_3b067_15 : decode cJ2_getChar_3b067 15 = .ok (.if_icmp .lt 13, 3) := by decide +kernel
theorem dJ2_getChar_3b067_18 : decode cJ2_getChar_3b067 18 = .ok (.new 52, 3) := by decide +kernel
theorem dJ2_getChar_3b067_21 : decode cJ2_getChar_3b067 21 = .ok (.dup, 1) := by decide +kernel
theorem dJ2_getChar_3b067_22 : decode cJ2_getChar_3b067 22 = .ok (.ldc 54, 2) := by decide +kernel
theorem dJ2_getChar_3b067_24 : decode cJ2_getChar_3b067 24 = .ok (.invokespecial 56, 3) := by decide +kernel
theorem dJ2_getChar_3b067_27 : decode cJ2_getChar_3b067 27 = .ok (.athrow, 1) := by decide +kernel
theorem dJ2_getChar_3b067_28 : decode cJ2_getChar_3b067 28 = .ok (.iload_n 1, 1) := by decide +kernel
theorem dJ2_getChar_3b067_29 : decode cJ2_getChar_3b067 29 = .ok (.iconst 1, 1) := by decide +kernel
theorem dJ2_getChar_3b067_30 : decode cJ2_getChar_3b067 30 = .ok (.ishl, 1) := by decide +kernel
theorem dJ2_getChar_3b067_31 : decode cJ2_getChar_3b067 31 = .ok (.istore_n 1, 1) := by decide +kernel
theorem dJ2_getChar_3b067_32 : decode cJ2_getChar_3b067 32 = .ok (.aload_n 0, 1) := by decide +kernel
theorem dJ2_getChar_3b067_33 : decode cJ2_getChar_3b067 33 = .ok (.iload_n 1, 1) := by decide +kernel
theorem dJ2_getChar_3b067_34 : decode cJ2_getChar_3b067 34 = .ok (.iinc 1 1, 3) := by decide +kernel
theorem dJ2_getChar_3b067_37 : decode cJ2_getChar_3b067 37 = .ok (.baload, 1) := by decide +kernel
theorem dJ2_getChar_3b067_38 : decode cJ2_getChar_3b067 38 = .ok (.sipush 255, 3) := by decide +kernel
theorem dJ2_getChar_3b067_41 : decode cJ2_getChar_3b067 41 = .ok (.iand, 1) := by decide +kernel
theorem dJ2_getChar_3b067_42 : decode cJ2_getChar_3b067 42 = .ok (.getstatic 59, 3) := by decide +kernel
theorem dJ2_getChar_3b067_45 : decode cJ2_getChar_3b067 45 = .ok (.ishl, 1) := by decide +kernel
theorem dJ2_getChar_3b067_46 : decode cJ2_getChar_3b067 46 = .ok (.aload_n 0, 1) := by decide +kernel
theorem dJ2_getChar_3b067_47 : decode cJ2_getChar_3b067 47 = .ok (.iload_n 1, 1) := by decide +kernel
theorem dJ2_getChar_3b067_48 : decode cJ2_getChar_3b067 48 = .ok (.baload, 1) := by decide +kernel
theorem dJ2_getChar_3b067_49 : decode cJ2_getChar_3b067 49 = .ok (.sipush 255, 3) := by decide +kernel
theorem dJ2_getChar_3b067_52 : decode cJ2_getChar_3b067 52 = .ok (.iand, 1) := by decide +kernel
theorem dJ2_getChar_3b067_53 : decode cJ2_getChar_3b067 53 = .ok (.getstatic 63, 3) := by decide +kernel
theorem dJ2_getChar_3b067_56 : decode cJ2_getChar_3b067 56 = .ok (.ishl, 1) := by decide +kernel
theorem dJ2_getChar_3b067_57 : decode cJ2_getChar_3b067 57 = .ok (.ior, 1) := by decide +kernel
theorem dJ2_getChar_3b067_58 : decode cJ2_getChar_3b067 58 = .ok (.i2c, 1) := by decide +kernel
theorem dJ2_getChar_3b067_59 : decode cJ2_getChar_3b067 59 = .ok (.ireturn, 1) := by decide +kernel
theorem dJ2_length_9d52b_0 : decode cJ2_length_9d52b 0 = .ok (.aload_n 0, 1) := by decide +kernel
theorem dJ2_length_9d52b_1 : decode cJ2_length_9d52b 1 = .ok (.arraylength, 1) := by decide +kernel
theorem dJ2_length_9d52b_2 : decode cJ2_length_9d52b 2 = .ok (.iconst 1, 1) := by decide +kernel
theorem dJ2_length_9d52b_3 : decode cJ2_length_9d52b 3 = .ok (.ishr, 1) := by decide +kernel
theorem dJ2_length_9d52b_4 : decode cJ2_length_9d52b 4 = .ok (.ireturn, 1) := by decide +kernel
theorem dJ2_coderFromArrayLen_85cad_0 : decode cJ2_coderFromArrayLen_85cad 0 = .ok (.iload_n 1, 1) := by decide +kernel
theorem dJ2_coderFromArrayLen_85cad_1 : decode cJ2_coderFromArrayLen_85cad 1 = .ok (.aload_n 0, 1) := by decide +kernel
theorem dJ2_coderFromArrayLen_85cad_2 : decode cJ2_coderFromArrayLen_85cad 2 = .ok (.arraylength, 1) := by decide +kernel
theorem dJ2_coderFromArrayLen_85cad_3 : decode cJ2_coderFromArrayLen_85cad 3 = .ok (.isub, 1) := by decide +kernel
theorem dJ2_coderFromArrayLen_85cad_4 : decode cJ2_coderFromArrayLen_85cad 4 = .ok (.bipush 31, 2) := by decide +kernel
theorem dJ2_coderFromArrayLen_85cad_6 : decode cJ2_coderFromArrayLen_85cad 6 = .ok (.iushr, 1) := by decide +kernel
theorem dJ2_coderFromArrayLen_85cad_7 : decode cJ2_coderFromArrayLen_85cad 7 = .ok (.i2b, 1) := by decide +kernel
theorem dJ2_coderFromArrayLen_85cad_8 : decode cJ2_coderFromArrayLen_85cad 8 = .ok (.ireturn, 1) := by decide +kernel
theorem dJ2_compress_39247_0 : decode cJ2_compress_39247 0 = .ok (.iload_n 2, 1) := by decide +kernel
theorem dJ2_compress_39247_1 : decode cJ2_compress_39247 1 = .ok (.newarray .byte, 2) := by decide +kernel
theorem dJ2_compress_39247_3 : decode cJ2_compress_39247 3 = .ok (.astore_n 3, 1) := by decide +kernel
theorem dJ2_compress_39247_4 : decode cJ2_compress_39247 4 = .ok (.aload_n 0, 1) := by decide +kernel
theorem dJ2_compress_39247_5 : decode cJ2_compress_39247 5 = .ok (.iload_n 1, 1) := by decide +kernel
theorem dJ2_compress_39247_6 : decode cJ2_compress_39247 6 = .ok (.aload_n 3, 1) := by decide +kernel
theorem dJ2_compress_39247_7 : decode cJ2_compress_39247 7 = .ok (.iconst 0, 1) := by decide +kernel
theorem dJ2_compress_39247_8 : decode cJ2_compress_39247 8 = .ok (.iload_n 2, 1) := by decide +kernel
theorem dJ2_compress_39247_9 : decode cJ2_compress_39247 9 = .ok (.invokestatic 123, 3) := by decide +kernel
theorem dJ2_compress_39247_12 : decode cJ2_compress_39247 12 = .ok (.istore 4, 2) := by decide +kernel
theorem dJ2_compress_39247_14 : decode cJ2_compress_39247 14 = .ok (.iload 4, 2) := by decide +kernel
theorem dJ2_compress_39247_16 : decode cJ2_compress_39247 16 = .ok (.iload_n 2, 1) := by decide +kernel
theorem dJ2_compress_39247_17 : decode cJ2_compress_39247 17 = .ok (.if_icmp .eq 47, 3) := by decide +kernel
theorem dJ2_compress_39247_20 : decode cJ2_compress_39247 20 = .ok (.aload_n 0, 1) := by decide +kernel
theorem dJ2_compress_39247_21 : decode cJ2_compress_39247 21 = .ok (.iload_n 1, 1) := by decide +kernel
theorem dJ2_compress_39247_22 : decode cJ2_compress_39247 22 = .ok (.iconst 1, 1) := by decide +kernel
theorem dJ2_compress_39247_23 : decode cJ2_compress_39247 23 = .ok (.ishl, 1) := by decide +kernel
theorem dJ2_compress_39247_24 : decode cJ2_compress_39247 24 = .ok (.iload_n 1, 1) := by decide +kernel
theorem dJ2_compress_39247_25 : decode cJ2_compress_39247 25 = .ok (.iload_n 2, 1) := by decide +kernel
theorem dJ2_compress_39247_26 : decode cJ2_compress_39247 26 = .ok (.iadd, 1) := by decide +kernel
theorem dJ2_compress_39247_27 : decode cJ2_compress_39247 27 = .ok (.invokestatic 11, 3) := by decide +kernel
theorem dJ2_compress_39247_30 : decode cJ2_compress_39247 30 = .ok (.invokestatic 126, 3) := by decide +kernel
theorem dJ2_compress_39247_33 : decode cJ2_compress_39247 33 = .ok (.astore 5, 2) := by decide +kernel
theorem dJ2_compress_39247_35 : decode cJ2_compress_39247 35 = .ok (.aload 5, 2) := by decide +kernel
theorem dJ2_compress_39247_37 : decode cJ2_compress_39247 37 = .ok (.iload 4, 2) := by decide +kernel
theorem dJ2_compress_39247_39 : decode cJ2_compress_39247 39 = .ok (.invokestatic 71, 3) := by decide +kernel
theorem dJ2_compress_39247_42 : decode cJ2_compress_39247 42 = .ok (.sipush 255, 3) := by decide +kernel
theorem dJ2_compress_39247_45 : decode cJ2_compress_39247 45 = .ok (.if_icmp .gt 16, 3) := by decide +kernel
theorem dJ2_compress_39247_48 : decode cJ2_compress_39247 48 = .ok (.aload 5, 2) := by decide +kernel
theorem dJ2_compress_39247_50 : decode cJ2_compress_39247 50 = .ok (.iconst 0, 1) := by decide +kernel
theorem dJ2_compress_39247_51 : decode cJ2_compress_39247 51 = .ok (.aload_n 3, 1) := by decide +kernel
theorem dJ2_compress_39247_52 : decode cJ2_compress_39247 52 = .ok (.iconst 0, 1) := by decide +kernel
theorem dJ2_compress_39247_53 : decode cJ2_compress_39247 53 = .ok (.iload_n 2, 1) := by decide +kernel
theorem dJ2_compress_39247_54 : decode cJ2_compress_39247 54 = .ok (.invokestatic 123, 3) := by decide +kernel
theorem dJ2_compress_39247_57 : decode cJ2_compress_39247 57 = .ok (.iload_n 2, 1) := by decide +kernel
theorem dJ2_compress_39247_58 : decode cJ2_compress_39247 58 = .ok (.if_icmp .eq 6, 3) := by decide +kernel
theorem dJ2_compress_39247_61 : decode cJ2_compress_39247 61 = .ok (.aload 5, 2) := by decide +kernel
theorem dJ2_compress_39247_63 : decode cJ2_compress_39247 63 = .ok (.areturn, 1) := by decide +kernel
theorem dJ2_compress_39247_64 : decode cJ2_compress_39247 64 = .ok (.aload_n 3, 1) := by decide +kernel
theorem dJ2_compress_39247_65 : decode cJ2_compress_39247 65 = .ok (.areturn, 1) := by decide +kernel
theorem dJ2_compress_5af95_0 : decode cJ2_compress_5af95 0 = .ok (.iload_n 1, 1) := by decide +kernel
theorem dJ2_compress_5af95_1 : decode cJ2_compress_5af95 1 = .ok (.iload 4, 2) := by decide +kernel
theorem dJ2_compress_5af95_3 : decode cJ2_compress_5af95 3 = .ok (.aload_n 0, 1) := by decide +kernel
theorem dJ2_compress_5af95_4 : decode cJ2_compress_5af95 4 = .ok (.invokestatic 173, 3) := by decide +kernel
theorem dJ2_compress_5af95_7 : decode cJ2_compress_5af95 7 = .ok (.iconst 0, 1) := by decide +kernel
theorem dJ2_compress_5af95_8 : decode cJ2_compress_5af95 8 = .ok (.istore 5, 2) := by decide +kernel
theorem dJ2_compress_5af95_10 : decode cJ2_compress_5af95 10 = .ok (.iload 5, 2) := by decide +kernel
theorem dJ2_compress_5af95_12 : decode cJ2_compress_5af95 12 = .ok (.iload 4, 2) := by decide +kernel
theorem dJ2_compress_5af95_14 : decode cJ2_compress_5af95 14 = .ok (.if_icmp .ge 39, 3) := by decide +kernel
theorem dJ2_compress_5af95_17 : decode cJ2_compress_5af95 17 = .ok (.aload_n 0, 1) := by decide +kernel
theorem dJ2_compress_5af95_18 : decode cJ2_compress_5af95 18 = .ok (.iload_n 1, 1) := by decide +kernel
theorem dJ2_compress_5af95_19 : decode cJ2_compress_5af95 19 = .ok (.invokestatic 71, 3) := by decide +kernel
theorem dJ2_compress_5af95_22 : decode cJ2_compress_5af95 22 = .ok (.istore 6, 2) := by decide +kernel
theorem dJ2_compress_5af95_24 : decode cJ2_compress_5af95 24 = .ok (.iload 6, 2) := by decide +kernel
theorem dJ2_compress_5af95_26 : decode cJ2_compress_5af95 26 = .ok (.sipush 255, 3) := by decide +kernel
theorem dJ2_compress_5af95_29 : decode cJ2_compress_5af95 29 = .ok (.if_icmp .le 6, 3) := by decide +kernel
theorem dJ2_compress_5af95_32 : decode cJ2_compress_5af95 32 = .ok (.iload 5, 2) := by decide +kernel
theorem dJ2_compress_5af95_34 : decode cJ2_compress_5af95 34 = .ok (.ireturn, 1) := by decide +kernel
theorem dJ2_compress_5af95_35 : decode cJ2_compress_5af95 35 = .ok (.aload_n 2, 1) := by decide +kernel
theorem dJ2_compress_5af95_36 : decode cJ2_compress_5af95 36 = .ok (.iload_n 3, 1) := by decide +kernel
theorem dJ2_compress_5af95_37 : decode cJ2_compress_5af95 37 = .ok (.iload 6, 2) := by decide +kernel
theorem dJ2_compress_5af95_39 : decode cJ2_compress_5af95 39 = .ok (.i2b, 1) := by decide +kernel
theorem dJ2_compress_5af95_40 : decode cJ2_compress_5af95 40 = .ok (.bastore, 1) := by decide +kernel
theorem dJ2_compress_5af95_41 : decode cJ2_compress_5af95 41 = .ok (.iinc 1 1, 3) := by decide +kernel
theorem dJ2_compress_5af95_44 : decode cJ2_compress_5af95 44 = .ok (.iinc 3 1, 3) := by decide +kernel
theorem dJ2_compress_5af95_47 : decode cJ2_compress_5af95 47 = .ok (.iinc 5 1, 3) := by decide +kernel
theorem dJ2_compress_5af95_50 : decode cJ2_compress_5af95 50 = .ok (.goto (-40), 3) := by decide +kernel
theorem dJ2_compress_5af95_53 : decode cJ2_compress_5af95 53 = .ok (.iload 4, 2) := by decide +kernel
theorem dJ2_compress_5af95_55 : decode cJ2_compress_5af95 55 = .ok (.ireturn, 1) := by decide +kernel
theorem dJ2_putCharSB_b72d1_0 : decode cJ2_putCharSB_b72d1 0 = .ok (.iload_n 1, 1) := by decide +kernel
theorem dJ2_putCharSB_b72d1_1 : decode cJ2_putCharSB_b72d1 1 = .ok (.aload_n 0, 1) := by decide +kernel
theorem dJ2_putCharSB_b72d1_2 : decode cJ2_putCharSB_b72d1 2 = .ok (.invokestatic 67, 3) := by decide +kernel
theorem dJ2_putCharSB_b72d1_5 : decode cJ2_putCharSB_b72d1 5 = .ok (.aload_n 0, 1) := by decide +kernel
theorem dJ2_putCharSB_b72d1_6 : decode cJ2_putCharSB_b72d1 6 = .ok (.iload_n 1, 1) := by decide +kernel
theorem dJ2_putCharSB_b72d1_7 : decode cJ2_putCharSB_b72d1 7 = .ok (.iload_n 2, 1) := by decide +kernel
theorem dJ2_putCharSB_b72d1_8 : decode cJ2_putCharSB_b72d1 8 = .ok (.invokestatic 111, 3) := by decide +kernel
theorem dJ2_putCharSB_b72d1_11 : decode cJ2_putCharSB_b72d1 11 = .ok (.return_, 1) := by decide +kernel
theorem dJ2_getChars_46870_0 : decode cJ2_getChars_46870 0 = .ok (.iload_n 1, 1) := by decide +kernel
theorem dJ2_getChars_46870_1 : decode cJ2_getChars_46870 1 = .ok (.iload_n 2, 1) := by decide +kernel
theorem dJ2_getChars_46870_2 : decode cJ2_getChars_46870 2 = .ok (.aload_n 3, 1) := by decide +kernel
theorem dJ2_getChars_46870_3 : decode cJ2_getChars_46870 3 = .ok (.invokestatic 96, 3) := by decide +kernel
theorem dJ2_getChars_46870_6 : decode cJ2_getChars_46870 6 = .ok (.iload_n 0, 1) := by decide +kernel
theorem dJ2_getChars_46870_7 : decode cJ2_getChars_46870 7 = .ok (.iload_n 2, 1) := by decide +kernel
theorem dJ2_getChars_46870_8 : decode cJ2_getChars_46870 8 = .ok (.aload_n 3, 1) := by decide +kernel
theorem dJ2_getChars_46870_9 : decode cJ2_getChars_46870 9 = .ok (.invokestatic 393, 3) := by decide +kernel
theorem dJ2_getChars_46870_12 : decode cJ2_getChars_46870 12 = .ok (.istore 4, 2) := by decide +kernel
theorem dJ2_getChars_46870_14 : decode cJ2_getChars_46870 14 = .ok (.getstatic 44, 3) := by decide +kernel
theorem dJ2_getChars_46870_17 : decode cJ2_getChars_46870 17 = .ok (.ifCond .ne 17, 3) := by decide +kernel
theorem dJ2_getChars_46870_20 : decode cJ2_getChars_46870 20 = .ok (.iload_n 1, 1) := by decide +kernel
theorem dJ2_getChars_46870_21 : decode cJ2_getChars_46870 21 = .ok (.iload 4, 2) := by decide +kernel
theorem dJ2_getChars_46870_23 : decode cJ2_getChars_46870 23 = .ok (.if_icmp .eq 11, 3) := by decide +kernel
theorem dJ2_getChars_46870_26 : decode cJ2_getChars_46870 26 = .ok (.new 52, 3) := by decide +kernel
theorem dJ2_getChars_46870_29 : decode cJ2_getChars_46870 29 = .ok (.dup, 1) := by decide +kernel
theorem dJ2_getChars_46870_30 : decode cJ2_getChars_46870 30 = .ok (.invokespecial 66, 3) := by decide +kernel
theorem dJ2_getChars_46870_33 : decode cJ2_getChars_46870 33 = .ok (.athrow, 1) := by decide +kernel
theorem dJ2_getChars_46870_34 : decode cJ2_getChars_46870 34 = .ok (.iload 4, 2) := by decide +kernel
theorem dJ2_getChars_46870_36 : decode cJ2_getChars_46870 36 = .ok (.ireturn, 1) := by decide +kernel
theorem dJ2_putCharsAt_cd4e5_0 : decode cJ2_putCharsAt_cd4e5 0 = .ok (.iload_n 1, 1) := by decide +kernel
theorem dJ2_putCharsAt_cd4e5_1 : decode cJ2_putCharsAt_cd4e5 1 = .ok (.iconst 4, 1) := by decide +kernel
theorem dJ2_putCharsAt_cd4e5_2 : decode cJ2_putCharsAt_cd4e5 2 = .ok (.iadd, 1) := by decide +kernel
theorem dJ2_putCharsAt_cd4e5_3 : decode cJ2_putCharsAt_cd4e5 3 = .ok (.istore 6, 2) := by decide +kernel
theorem dJ2_putCharsAt_cd4e5_5 : decode cJ2_putCharsAt_cd4e5 5 = .ok (.iload_n 1, 1) := by decide +kernel
theorem dJ2_putCharsAt_cd4e5_6 : decode cJ2_putCharsAt_cd4e5 6 = .ok (.iload 6, 2) := by decide +kernel
theorem dJ2_putCharsAt_cd4e5_8 : decode cJ2_putCharsAt_cd4e5 8 = .ok (.aload_n 0, 1) := by decide +kernel
theorem dJ2_putCharsAt_cd4e5_9 : decode cJ2_putCharsAt_cd4e5 9 = .ok (.invokestatic 96, 3) := by decide +kernel
theorem dJ2_putCharsAt_cd4e5_12 : decode cJ2_putCharsAt_cd4e5 12 = .ok (.aload_n 0, 1) := by decide +kernel
theorem dJ2_putCharsAt_cd4e5_13 : decode cJ2_putCharsAt_cd4e5 13 = .ok (.iload_n 1, 1) := by decide +kernel
theorem dJ2_putCharsAt_cd4e5_14 : decode cJ2_putCharsAt_cd4e5 14 = .ok (.iinc 1 1, 3) := by decide +kernel
theorem dJ2_putCharsAt_cd4e5_17 : decode cJ2_putCharsAt_cd4e5 17 = .ok (.iload_n 2, 1) := by decide +kernel
theorem dJ2_putCharsAt_cd4e5_18 : decode cJ2_putCharsAt_cd4e5 18 = .ok (.invokestatic 111, 3) := by decide +kernel
theorem dJ2_putCharsAt_cd4e5_21 : decode cJ2_putCharsAt_cd4e5 21 = .ok (.aload_n 0, 1) := by decide +kernel
theorem dJ2_putCharsAt_cd4e5_22 : decode cJ2_putCharsAt_cd4e5 22 = .ok (.iload_n 1, 1) := by decide +kernel
theorem dJ2_putCharsAt_cd4e5_23 : decode cJ2_putCharsAt_cd4e5 23 = .ok (.iinc 1 1, 3) := by decide +kernel
theorem dJ2_putCharsAt_cd4e5_26 : decode cJ2_putCharsAt_cd4e5 26 = .ok (.iload_n 3, 1) := by decide +kernel
theorem dJ2_putCharsAt_cd4e5_27 : decode cJ2_putCharsAt_cd4e5 27 = .ok (.invokestatic 111, 3) := by decide +kernel
theorem dJ2_putCharsAt_cd4e5_30 : decode cJ2_putCharsAt_cd4e5 30 = .ok (.aload_n 0, 1) := by decide +kernel
theorem dJ2_putCharsAt_cd4e5_31 : decode cJ2_putCharsAt_cd4e5 31 = .ok (.iload_n 1, 1) := by decide +kernel
theorem dJ2_putCharsAt_cd4e5_32 : decode cJ2_putCharsAt_cd4e5 32 = .ok (.iinc 1 1, 3) := by decide +kernel
theorem dJ2_putCharsAt_cd4e5_35 : decode cJ2_putCharsAt_cd4e5 35 = .ok (.iload 4, 2) := by decide +kernel
theorem dJ2_putCharsAt_cd4e5_37 : decode cJ2_putCharsAt_cd4e5 37 = .ok (.invokestatic 111, 3) := by decide +kernel
theorem dJ2_putCharsAt_cd4e5_40 : decode cJ2_putCharsAt_cd4e5 40 = .ok (.aload_n 0, 1) := by decide +kernel
theorem dJ2_putCharsAt_cd4e5_41 : decode cJ2_putCharsAt_cd4e5 41 = .ok (.iload_n 1, 1) := by decide +kernel
theorem dJ2_putCharsAt_cd4e5_42 : decode cJ2_putCharsAt_cd4e5 42 = .ok (.iinc 1 1, 3) := by decide +kernel
theorem dJ2_putCharsAt_cd4e5_45 : decode cJ2_putCharsAt_cd4e5 45 = .ok (.iload 5, 2) := by decide +kernel
theorem dJ2_putCharsAt_cd4e5_47 : decode cJ2_putCharsAt_cd4e5 47 = .ok (.invokestatic 111, 3) := by decide +kernel
theorem dJ2_putCharsAt_cd4e5_50 : decode cJ2_putCharsAt_cd4e5 50 = .ok (.getstatic 44, 3) := by decide +kernel
theorem dJ2_putCharsAt_cd4e5_53 : decode cJ2_putCharsAt_cd4e5 53 = .ok (.ifCond .ne 17, 3) := by decide +kernel
theorem dJ2_putCharsAt_cd4e5_56 : decode cJ2_putCharsAt_cd4e5 56 = .ok (.iload_n 1, 1) := by decide +kernel
theorem dJ2_putCharsAt_cd4e5_57 : decode cJ2_putCharsAt_cd4e5 57 = .ok (.iload 6, 2) := by decide +kernel
theorem dJ2_putCharsAt_cd4e5_59 : decode cJ2_putCharsAt_cd4e5 59 = .ok (.if_icmp .eq 11, 3) := by decide +kernel
theorem dJ2_putCharsAt_cd4e5_62 : decode cJ2_putCharsAt_cd4e5 62 = .ok (.new 52, 3) := by decide +kernel
theorem dJ2_putCharsAt_cd4e5_65 : decode cJ2_putCharsAt_cd4e5 65 = .ok (.dup, 1) := by decide +kernel
theorem dJ2_putCharsAt_cd4e5_66 : decode cJ2_putCharsAt_cd4e5 66 = .ok (.invokespecial 66, 3) := by decide +kernel
theorem dJ2_putCharsAt_cd4e5_69 : decode cJ2_putCharsAt_cd4e5 69 = .ok (.athrow, 1) := by decide +kernel
theorem dJ2_putCharsAt_cd4e5_70 : decode cJ2_putCharsAt_cd4e5 70 = .ok (.iload 6, 2) := by decide +kernel
theorem dJ2_putCharsAt_cd4e5_72 : decode cJ2_putCharsAt_cd4e5 72 = .ok (.ireturn, 1) := by decide +kernel
theorem dJ2_charAt_3b067_0 : decode cJ2_charAt_3b067 0 = .ok (.iload_n 1, 1) := by decide +kernel
theorem dJ2_charAt_3b067_1 : decode cJ2_charAt_3b067 1 = .ok (.aload_n 0, 1) := by decide +kernel
theorem dJ2_charAt_3b067_2 : decode cJ2_charAt_3b067 2 = .ok (.invokestatic 67, 3) := by decide +kernel
theorem dJ2_charAt_3b067_5 : decode cJ2_charAt_3b067 5 = .ok (.aload_n 0, 1) := by decide +kernel
theorem dJ2_charAt_3b067_6 : decode cJ2_charAt_3b067 6 = .ok (.iload_n 1, 1) := by decide +kernel
theorem dJ2_charAt_3b067_7 : decode cJ2_charAt_3b067 7 = .ok (.invokestatic 71, 3) := by decide +kernel
theorem dJ2_charAt_3b067_10 : decode cJ2_charAt_3b067 10 = .ok (.ireturn, 1) := by decide +kernel
theorem dJ2_inflate_0e8fd_0 : decode cJ2_inflate_0e8fd 0 = .ok (.iload_n 3, 1) := by decide +kernel
theorem dJ2_inflate_0e8fd_1 : decode cJ2_inflate_0e8fd 1 = .ok (.iload 4, 2) := by decide +kernel
theorem dJ2_inflate_0e8fd_3 : decode cJ2_inflate_0e8fd 3 = .ok (.aload_n 2, 1) := by decide +kernel
theorem dJ2_inflate_0e8fd_4 : decode cJ2_inflate_0e8fd 4 = .ok (.invokestatic 173, 3) := by decide +kernel
theorem dJ2_inflate_0e8fd_7 : decode cJ2_inflate_0e8fd 7 = .ok (.iconst 0, 1) := by decide +kernel
theorem dJ2_inflate_0e8fd_8 : decode cJ2_inflate_0e8fd 8 = .ok (.istore 5, 2) := by decide +kernel
theorem dJ2_inflate_0e8fd_10 : decode cJ2_inflate_0e8fd 10 = .ok (.iload 5, 2) := by decide +kernel
theorem dJ2_inflate_0e8fd_12 : decode cJ2_inflate_0e8fd 12 = .ok (.iload 4, 2) := by decide +kernel
theorem dJ2_inflate_0e8fd_14 : decode cJ2_inflate_0e8fd 14 = .ok (.if_icmp .ge 27, 3) := by decide +kernel
theorem dJ2_inflate_0e8fd_17 : decode cJ2_inflate_0e8fd 17 = .ok (.aload_n 2, 1) := by decide +kernel
theorem dJ2_inflate_0e8fd_18 : decode cJ2_inflate_0e8fd 18 = .ok (.iload_n 3, 1) := by decide +kernel
theorem dJ2_inflate_0e8fd_19 : decode cJ2_inflate_0e8fd 19 = .ok (.iinc 3 1, 3) := by decide +kernel
theorem dJ2_inflate_0e8fd_22 : decode cJ2_inflate_0e8fd 22 = .ok (.aload_n 0, 1) := by decide +kernel
theorem dJ2_inflate_0e8fd_23 : decode cJ2_inflate_0e8fd 23 = .ok (.iload_n 1, 1) := by decide +kernel
theorem dJ2_inflate_0e8fd_24 : decode cJ2_inflate_0e8fd 24 = .ok (.iinc 1 1, 3) := by decide +kernel
theorem dJ2_inflate_0e8fd_27 : decode cJ2_inflate_0e8fd 27 = .ok (.baload, 1) := by decide +kernel
theorem dJ2_inflate_0e8fd_28 : decode cJ2_inflate_0e8fd 28 = .ok (.sipush 255, 3) := by decide +kernel
theorem dJ2_inflate_0e8fd_31 : decode cJ2_inflate_0e8fd 31 = .ok (.iand, 1) := by decide +kernel
theorem dJ2_inflate_0e8fd_32 : decode cJ2_inflate_0e8fd 32 = .ok (.invokestatic 111, 3) := by decide +kernel
theorem dJ2_inflate_0e8fd_35 : decode cJ2_inflate_0e8fd 35 = .ok (.iinc 5 1, 3) := by decide +kernel
theorem dJ2_inflate_0e8fd_38 : decode cJ2_inflate_0e8fd 38 = .ok (.goto (-28), 3) := by decide +kernel
theorem dJ2_inflate_0e8fd_41 : decode cJ2_inflate_0e8fd 41 = .ok (.return_, 1) := by decide +kernel
theorem dJ2_getChars_ba4f3_0 : decode cJ2_getChars_ba4f3 0 = .ok (.iload_n 1, 1) := by decide +kernel
theorem dJ2_getChars_ba4f3_1 : decode cJ2_getChars_ba4f3 1 = .ok (.istore 5, 2) := by decide +kernel
theorem dJ2_getChars_ba4f3_3 : decode cJ2_getChars_ba4f3 3 = .ok (.iload_n 0, 1) := by decide +kernel
theorem dJ2_getChars_ba4f3_4 : decode cJ2_getChars_ba4f3 4 = .ok (.ifCond .ge 7, 3) := by decide +kernel
theorem dJ2_getChars_ba4f3_7 : decode cJ2_getChars_ba4f3 7 = .ok (.iconst 1, 1) := by decide +kernel
theorem dJ2_getChars_ba4f3_8 : decode cJ2_getChars_ba4f3 8 = .ok (.goto 4, 3) := by decide +kernel
theorem dJ2_getChars_ba4f3_11 : decode cJ2_getChars_ba4f3 11 = .ok (.iconst 0, 1) := by decide +kernel
theorem dJ2_getChars_ba4f3_12 : decode cJ2_getChars_ba4f3 12 = .ok (.istore 6, 2) := by decide +kernel
theorem dJ2_getChars_ba4f3_14 : decode cJ2_getChars_ba4f3 14 = .ok (.iload 6, 2) := by decide +kernel
theorem dJ2_getChars_ba4f3_16 : decode cJ2_getChars_ba4f3 16 = .ok (.ifCond .ne 6, 3) := by decide +kernel
theorem dJ2_getChars_ba4f3_19 : decode cJ2_getChars_ba4f3 19 = .ok (.iload_n 0, 1) := by decide +kernel
theorem dJ2_getChars_ba4f3_20 : decode cJ2_getChars_ba4f3 20 = .ok (.ineg, 1) := by decide +kernel
theorem dJ2_getChars_ba4f3_21 : decode cJ2_getChars_ba4f3 21 = .ok (.istore_n 0, 1) := by decide +kernel
theorem dJ2_getChars_ba4f3_22 : decode cJ2_getChars_ba4f3 22 = .ok (.iload_n 0, 1) := by decide +kernel
theorem dJ2_getChars_ba4f3_23 : decode cJ2_getChars_ba4f3 23 = .ok (.bipush (-100), 2) := by decide +kernel
theorem dJ2_getChars_ba4f3_25 : decode cJ2_getChars_ba4f3 25 = .ok (.if_icmp .gt 51, 3) := by decide +kernel
theorem dJ2_getChars_ba4f3_28 : decode cJ2_getChars_ba4f3 28 = .ok (.iload_n 0, 1) := by decide +kernel
theorem dJ2_getChars_ba4f3_29 : decode cJ2_getChars_ba4f3 29 = .ok (.bipush 100, 2) := by decide +kernel
theorem dJ2_getChars_ba4f3_31 : decode cJ2_getChars_ba4f3 31 = .ok (.idiv, 1) := by decide +kernel
theorem dJ2_getChars_ba4f3_32 : decode cJ2_getChars_ba4f3 32 = .ok (.istore_n 3, 1) := by decide +kernel
theorem dJ2_getChars_ba4f3_33 : decode cJ2_getChars_ba4f3 33 = .ok (.iload_n 3, 1) := by decide +kernel
theorem dJ2_getChars_ba4f3_34 : decode cJ2_getChars_ba4f3 34 = .ok (.bipush 100, 2) := by decide +kernel
theorem dJ2_getChars_ba4f3_36 : decode cJ2_getChars_ba4f3 36 = .ok (.imul, 1) := by decide +kernel
theorem dJ2_getChars_ba4f3_37 : decode cJ2_getChars_ba4f3 37 = .ok (.iload_n 0, 1) := by decide +kernel
theorem dJ2_getChars_ba4f3_38 : decode cJ2_getChars_ba4f3 38 = .ok (.isub, 1) := by decide +kernel
theorem dJ2_getChars_ba4f3_39 : decode cJ2_getChars_ba4f3 39 = .ok (.istore 4, 2) := by decide +kernel
theorem dJ2_getChars_ba4f3_41 : decode cJ2_getChars_ba4f3 41 = .ok (.iload_n 3, 1) := by decide +kernel
theorem dJ2_getChars_ba4f3_42 : decode cJ2_getChars_ba4f3 42 = .ok (.istore_n 0, 1) := by decide +kernel
theorem dJ2_getChars_ba4f3_43 : decode cJ2_getChars_ba4f3 43 = .ok (.aload_n 2, 1) := by decide +kernel
theorem dJ2_getChars_ba4f3_44 : decode cJ2_getChars_ba4f3 44 = .ok (.iinc 5 (-1), 3) := by decide +kernel
theorem dJ2_getChars_ba4f3_47 : decode cJ2_getChars_ba4f3 47 = .ok (.iload 5, 2) := by decide +kernel
theorem dJ2_getChars_ba4f3_49 : decode cJ2_getChars_ba4f3 49 = .ok (.getstatic 403, 3) := by decide +kernel
theorem dJ2_getChars_ba4f3_52 : decode cJ2_getChars_ba4f3 52 = .ok (.iload 4, 2) := by decide +kernel
theorem dJ2_getChars_ba4f3_54 : decode cJ2_getChars_ba4f3 54 = .ok (.baload, 1) := by decide +kernel
theorem dJ2_getChars_ba4f3_55 : decode cJ2_getChars_ba4f3 55 = .ok (.invokestatic 111, 3) := by decide +kernel
theorem dJ2_getChars_ba4f3_58 : decode cJ2_getChars_ba4f3 58 = .ok (.aload_n 2, 1) := by decide +kernel
theorem dJ2_getChars_ba4f3_59 : decode cJ2_getChars_ba4f3 59 = .ok (.iinc 5 (-1), 3) := by decide +kernel
theorem dJ2_getChars_ba4f3_62 : decode cJ2_getChars_ba4f3 62 = .ok (.iload 5, 2) := by decide +kernel
theorem dJ2_getChars_ba4f3_64 : decode cJ2_getChars_ba4f3 64 = .ok (.getstatic 407, 3) := by decide +kernel
theorem dJ2_getChars_ba4f3_67 : decode cJ2_getChars_ba4f3 67 = .ok (.iload 4, 2) := by decide +kernel
theorem dJ2_getChars_ba4f3_69 : decode cJ2_getChars_ba4f3 69 = .ok (.baload, 1) := by decide +kernel
theorem dJ2_getChars_ba4f3_70 : decode cJ2_getChars_ba4f3 70 = .ok (.invokestatic 111, 3) := by decide +kernel
theorem dJ2_getChars_ba4f3_73 : decode cJ2_getChars_ba4f3 73 = .ok (.goto (-51), 3) := by decide +kernel
theorem dJ2_getChars_ba4f3_76 : decode cJ2_getChars_ba4f3 76 = .ok (.aload_n 2, 1) := by decide +kernel
theorem dJ2_getChars_ba4f3_77 : decode cJ2_getChars_ba4f3 77 = .ok (.iinc 5 (-1), 3) := by decide +kernel
theorem dJ2_getChars_ba4f3_80 : decode cJ2_getChars_ba4f3 80 = .ok (.iload 5, 2) := by decide +kernel
theorem dJ2_getChars_ba4f3_82 : decode cJ2_getChars_ba4f3 82 = .ok (.getstatic 403, 3) := by decide +kernel
theorem dJ2_getChars_ba4f3_85 : decode cJ2_getChars_ba4f3 85 = .ok (.iload_n 0, 1) := by decide +kernel
theorem dJ2_getChars_ba4f3_86 : decode cJ2_getChars_ba4f3 86 = .ok (.ineg, 1) := by decide +kernel
theorem dJ2_getChars_ba4f3_87 : decode cJ2_getChars_ba4f3 87 = .ok (.baload, 1) := by decide +kernel
theorem dJ2_getChars_ba4f3_88 : decode cJ2_getChars_ba4f3 88 = .ok (.invokestatic 111, 3) := by decide +kernel
theorem dJ2_getChars_ba4f3_91 : decode cJ2_getChars_ba4f3 91 = .ok (.iload_n 0, 1) := by decide +kernel
theorem dJ2_getChars_ba4f3_92 : decode cJ2_getChars_ba4f3 92 = .ok (.bipush (-9), 2) := by decide +kernel
theorem dJ2_getChars_ba4f3_94 : decode cJ2_getChars_ba4f3 94 = .ok (.if_icmp .ge 18, 3) := by decide +kernel
theorem dJ2_getChars_ba4f3_97 : decode cJ2_getChars_ba4f3 97 = .ok (.aload_n 2, 1) := by decide +kernel
theorem dJ2_getChars_ba4f3_98 : decode cJ2_getChars_ba4f3 98 = .ok (.iinc 5 (-1), 3) := by decide +kernel
theorem dJ2_getChars_ba4f3_101 : decode cJ2_getChars_ba4f3 101 = .ok (.iload 5, 2) := by decide +kernel
theorem dJ2_getChars_ba4f3_103 : decode cJ2_getChars_ba4f3 103 = .ok (.getstatic 407, 3) := by decide +kernel
theorem dJ2_getChars_ba4f3_106 : decode cJ2_getChars_ba4f3 106 = .ok (.iload_n 0, 1) := by decide +kernel
theorem dJ2_getChars_ba4f3_107 : decode cJ2_getChars_ba4f3 107 = .ok (.ineg, 1) := by decide +kernel
theorem dJ2_getChars_ba4f3_108 : decode cJ2_getChars_ba4f3 108 = .ok (.baload, 1) := by decide +kernel
theorem dJ2_getChars_ba4f3_109 : decode cJ2_getChars_ba4f3 109 = .ok (.invokestatic 111, 3) := by decide +kernel
theorem dJ2_getChars_ba4f3_112 : decode cJ2_getChars_ba4f3 112 = .ok (.iload 6, 2) := by decide +kernel
theorem dJ2_getChars_ba4f3_114 : decode cJ2_getChars_ba4f3 114 = .ok (.ifCond .eq 14, 3) := by decide +kernel
theorem dJ2_getChars_ba4f3_117 : decode cJ2_getChars_ba4f3 117 = .ok (.aload_n 2, 1) := by decide +kernel
theorem dJ2_getChars_ba4f3_118 : decode cJ2_getChars_ba4f3 118 = .ok (.iinc 5 (-1), 3) := by decide +kernel
theorem dJ2_getChars_ba4f3_121 : decode cJ2_getChars_ba4f3 121 = .ok (.iload 5, 2) := by decide +kernel
theorem dJ2_getChars_ba4f3_123 : decode cJ2_getChars_ba4f3 123 = .ok (.bipush 45, 2) := by decide +kernel
theorem dJ2_getChars_ba4f3_125 : decode cJ2_getChars_ba4f3 125 = .ok (.invokestatic 111, 3) := by decide +kernel
theorem dJ2_getChars_ba4f3_128 : decode cJ2_getChars_ba4f3 128 = .ok (.iload 5, 2) := by decide +kernel
theorem dJ2_getChars_ba4f3_130 : decode cJ2_getChars_ba4f3 130 = .ok (.ireturn, 1) := by decide +kernel
theorem dJ2_checkIndex_2214a_0 : decode cJ2_checkIndex_2214a 0 = .ok (.iload_n 0, 1) := by decide +kernel
theorem dJ2_checkIndex_2214a_1 : decode cJ2_checkIndex_2214a 1 = .ok (.aload_n 1, 1) := by decide +kernel
theorem dJ2_checkIndex_2214a_2 : decode cJ2_checkIndex_2214a 2 = .ok (.invokestatic 48, 3) := by decide +kernel
theorem dJ2_checkIndex_2214a_5 : decode cJ2_checkIndex_2214a 5 = .ok (.invokestatic 414, 3) := by decide +kernel
theorem dJ2_checkIndex_2214a_8 : decode cJ2_checkIndex_2214a 8 = .ok (.return_, 1) := by decide +kernel
theorem dJ2_checkBoundsBeginEnd_d044e_0 : decode cJ2_checkBoundsBeginEnd_d044e 0 = .ok (.iload_n 0, 1) := by decide +kernel
theorem dJ2_checkBoundsBeginEnd_d044e_1 : decode cJ2_checkBoundsBeginEnd_d044e 1 = .ok (.iload_n 1, 1) := by decide +kernel
theorem dJ2_checkBoundsBeginEnd_d044e_2 : decode cJ2_checkBoundsBeginEnd_d044e 2 = .ok (.aload_n 2, 1) := by decide +kernel
theorem dJ2_checkBoundsBeginEnd_d044e_3 : decode cJ2_checkBoundsBeginEnd_d044e 3 = .ok (.invokestatic 48, 3) := by decide +kernel
theorem dJ2_checkBoundsBeginEnd_d044e_6 : decode cJ2_checkBoundsBeginEnd_d044e 6 = .ok (.invokestatic 241, 3) := by decide +kernel
theorem dJ2_checkBoundsBeginEnd_d044e_9 : decode cJ2_checkBoundsBeginEnd_d044e 9 = .ok (.return_, 1) := by decide +kernel
theorem dJ2_checkBoundsOffCount_d044e_0 : decode cJ2_checkBoundsOffCount_d044e 0 = .ok (.iload_n 0, 1) := by decide +kernel
theorem dJ2_checkBoundsOffCount_d044e_1 : decode cJ2_checkBoundsOffCount_d044e 1 = .ok (.iload_n 1, 1) := by decide +kernel
theorem dJ2_checkBoundsOffCount_d044e_2 : decode cJ2_checkBoundsOffCount_d044e 2 = .ok (.aload_n 2, 1) := by decide +kernel
theorem dJ2_checkBoundsOffCount_d044e_3 : decode cJ2_checkBoundsOffCount_d044e 3 = .ok (.invokestatic 48, 3) := by decide +kernel
theorem dJ2_checkBoundsOffCount_d044e_6 : decode cJ2_checkBoundsOffCount_d044e 6 = .ok (.invokestatic 419, 3) := by decide +kernel
theorem dJ2_checkBoundsOffCount_d044e_9 : decode cJ2_checkBoundsOffCount_d044e 9 = .ok (.pop, 1) := by decide +kernel
theorem dJ2_checkBoundsOffCount_d044e_10 : decode cJ2_checkBoundsOffCount_d044e 10 = .ok (.return_, 1) := by decide +kernel
theorem dJ7_copyOf_9075b_0 : decode cJ7_copyOf_9075b 0 = .ok (.iload_n 1, 1) := by decide +kernel
theorem dJ7_copyOf_9075b_1 : decode cJ7_copyOf_9075b 1 = .ok (.aload_n 0, 1) := by decide +kernel
theorem dJ7_copyOf_9075b_2 : decode cJ7_copyOf_9075b 2 = .ok (.arraylength, 1) := by decide +kernel
theorem dJ7_copyOf_9075b_3 : decode cJ7_copyOf_9075b 3 = .ok (.if_icmp .ne 11, 3) := by decide +kernel
theorem dJ7_copyOf_9075b_6 : decode cJ7_copyOf_9075b 6 = .ok (.aload_n 0, 1) := by decide +kernel
theorem dJ7_copyOf_9075b_7 : decode cJ7_copyOf_9075b 7 = .ok (.invokevirtual 310, 3) := by decide +kernel
theorem dJ7_copyOf_9075b_10 : decode cJ7_copyOf_9075b 10 = .ok (.checkcast 311, 3) := by decide +kernel
theorem dJ7_copyOf_9075b_13 : decode cJ7_copyOf_9075b 13 = .ok (.areturn, 1) := by decide +kernel
theorem dJ7_copyOf_9075b_14 : decode cJ7_copyOf_9075b 14 = .ok (.iload_n 1, 1) := by decide +kernel
theorem dJ7_copyOf_9075b_15 : decode cJ7_copyOf_9075b 15 = .ok (.newarray .byte, 2) := by decide +kernel
theorem dJ7_copyOf_9075b_17 : decode cJ7_copyOf_9075b 17 = .ok (.astore_n 2, 1) := by decide +kernel
theorem dJ7_copyOf_9075b_18 : decode cJ7_copyOf_9075b 18 = .ok (.aload_n 0, 1) := by decide +kernel
theorem dJ7_copyOf_9075b_19 : decode cJ7_copyOf_9075b 19 = .ok (.iconst 0, 1) := by decide +kernel
theorem dJ7_copyOf_9075b_20 : decode cJ7_copyOf_9075b 20 = .ok (.aload_n 2, 1) := by decide +kernel
theorem dJ7_copyOf_9075b_21 : decode cJ7_copyOf_9075b 21 = .ok (.iconst 0, 1) := by decide +kernel
theorem dJ7_copyOf_9075b_22 : decode cJ7_copyOf_9075b 22 = .ok (.aload_n 0, 1) := by decide +kernel
theorem dJ7_copyOf_9075b_23 : decode cJ7_copyOf_9075b 23 = .ok (.arraylength, 1) := by decide +kernel
theorem dJ7_copyOf_9075b_24 : decode cJ7_copyOf_9075b 24 = .ok (.iload_n 1, 1) := by decide +kernel
theorem dJ7_copyOf_9075b_25 : decode cJ7_copyOf_9075b 25 = .ok (.invokestatic 304, 3) := by decide +kernel
theorem dJ7_copyOf_9075b_28 : decode cJ7_copyOf_9075b 28 = .ok (.invokestatic 150, 3) := by decide +kernel
theorem dJ7_copyOf_9075b_31 : decode cJ7_copyOf_9075b 31 = .ok (.aload_n 2, 1) := by decide +kernel
theorem dJ7_copyOf_9075b_32 : decode cJ7_copyOf_9075b 32 = .ok (.areturn, 1) := by decide +kernel
theorem dJ7_checkLength_df160_0 : decode cJ7_checkLength_df160 0 = .ok (.iload_n 1, 1) := by decide +kernel
theorem dJ7_checkLength_df160_1 : decode cJ7_checkLength_df160 1 = .ok (.iload_n 0, 1) := by decide +kernel
theorem dJ7_checkLength_df160_2 : decode cJ7_checkLength_df160 2 = .ok (.if_icmp .ge 35, 3) := by decide +kernel
theorem dJ7_checkLength_df160_5 : decode cJ7_checkLength_df160 5 = .ok (.new 43, 3) := by decide +kernel
theorem dJ7_checkLength_df160_8 : decode cJ7_checkLength_df160 8 = .ok (.dup, 1) := by decide +kernel
theorem dJ7_checkLength_df160_9 : decode cJ7_checkLength_df160 9 = .ok (.new 45, 3) := by decide +kernel
theorem dJ7_checkLength_df160_12 : decode cJ7_checkLength_df160 12 = .ok (.dup, 1) := by decide +kernel
theorem dJ7_checkLength_df160_13 : decode cJ7_checkLength_df160 13 = .ok (.invokespecial 47, 3) := by decide +kernel
theorem dJ7_checkLength_df160_16 : decode cJ7_checkLength_df160 16 = .ok (.iload_n 0, 1) := by decide +kernel
theorem dJ7_checkLength_df160_17 : decode cJ7_checkLength_df160 17 = .ok (.invokevirtual 54, 3) := by decide +kernel
theorem dJ7_checkLength_df160_20 : decode cJ7_checkLength_df160 20 = .ok (.ldc_w 337, 3) := by decide +kernel
theorem dJ7_checkLength_df160_23 : decode cJ7_checkLength_df160 23 = .ok (.invokevirtual 50, 3) := by decide +kernel
theorem dJ7_checkLength_df160_26 : decode cJ7_checkLength_df160 26 = .ok (.iload_n 1, 1) := by decide +kernel
theorem dJ7_checkLength_df160_27 : decode cJ7_checkLength_df160 27 = .ok (.invokevirtual 54, 3) := by decide +kernel
theorem dJ7_checkLength_df160_30 : decode cJ7_checkLength_df160 30 = .ok (.invokevirtual 61, 3) := by decide +kernel
theorem dJ7_checkLength_df160_33 : decode cJ7_checkLength_df160 33 = .ok (.invokespecial 65, 3) := by decide +kernel
theorem dJ7_checkLength_df160_36 : decode cJ7_checkLength_df160 36 = .ok (.athrow, 1) := by decide +kernel
theorem dJ7_checkLength_df160_37 : decode cJ7_checkLength_df160 37 = .ok (.return_, 1) := by decide +kernel
theorem dJ7_copyOfRange_39247_0 : decode cJ7_copyOfRange_39247 0 = .ok (.iload_n 1, 1) := by decide +kernel
theorem dJ7_copyOfRange_39247_1 : decode cJ7_copyOfRange_39247 1 = .ok (.ifCond .ne 9, 3) := by decide +kernel
theorem dJ7_copyOfRange_39247_4 : decode cJ7_copyOfRange_39247 4 = .ok (.iload_n 2, 1) := by decide +kernel
theorem dJ7_copyOfRange_39247_5 : decode cJ7_copyOfRange_39247 5 = .ok (.aload_n 0, 1) := by decide +kernel
theorem dJ7_copyOfRange_39247_6 : decode cJ7_copyOfRange_39247 6 = .ok (.arraylength, 1) := by decide +kernel
theorem dJ7_copyOfRange_39247_7 : decode cJ7_copyOfRange_39247 7 = .ok (.if_icmp .eq 10, 3) := by decide +kernel
theorem dJ7_copyOfRange_39247_10 : decode cJ7_copyOfRange_39247 10 = .ok (.aload_n 0, 1) := by decide +kernel
theorem dJ7_copyOfRange_39247_11 : decode cJ7_copyOfRange_39247 11 = .ok (.iload_n 1, 1) := by decide +kernel
theorem dJ7_copyOfRange_39247_12 : decode cJ7_copyOfRange_39247 12 = .ok (.iload_n 2, 1) := by decide +kernel
theorem dJ7_copyOfRange_39247_13 : decode cJ7_copyOfRange_39247 13 = .ok (.invokestatic 339, 3) := by decide +kernel
theorem dJ7_copyOfRange_39247_16 : decode cJ7_copyOfRange_39247 16 = .ok (.areturn, 1) := by decide +kernel
theorem dJ7_copyOfRange_39247_17 : decode cJ7_copyOfRange_39247 17 = .ok (.aload_n 0, 1) := by decide +kernel
theorem dJ7_copyOfRange_39247_18 : decode cJ7_copyOfRange_39247 18 = .ok (.invokevirtual 310, 3) := by decide +kernel
theorem dJ7_copyOfRange_39247_21 : decode cJ7_copyOfRange_39247 21 = .ok (.checkcast 311, 3) := by decide +kernel
theorem dJ7_copyOfRange_39247_24 : decode cJ7_copyOfRange_39247 24 = .ok (.areturn, 1) := by decide +kernel
theorem dJ7_copyOfRangeByte_39247_0 : decode cJ7_copyOfRangeByte_39247 0 = .ok (.iload_n 1, 1) := by decide +kernel
theorem dJ7_copyOfRangeByte_39247_1 : decode cJ7_copyOfRangeByte_39247 1 = .ok (.iload_n 2, 1) := by decide +kernel
theorem dJ7_copyOfRangeByte_39247_2 : decode cJ7_copyOfRangeByte_39247 2 = .ok (.invokestatic 343, 3) := by decide +kernel
theorem dJ7_copyOfRangeByte_39247_5 : decode cJ7_copyOfRangeByte_39247 5 = .ok (.iload_n 2, 1) := by decide +kernel
theorem dJ7_copyOfRangeByte_39247_6 : decode cJ7_copyOfRangeByte_39247 6 = .ok (.iload_n 1, 1) := by decide +kernel
theorem dJ7_copyOfRangeByte_39247_7 : decode cJ7_copyOfRangeByte_39247 7 = .ok (.isub, 1) := by decide +kernel
theorem dJ7_copyOfRangeByte_39247_8 : decode cJ7_copyOfRangeByte_39247 8 = .ok (.istore_n 3, 1) := by decide +kernel
theorem dJ7_copyOfRangeByte_39247_9 : decode cJ7_copyOfRangeByte_39247 9 = .ok (.iload_n 3, 1) := by decide +kernel
theorem dJ7_copyOfRangeByte_39247_10 : decode cJ7_copyOfRangeByte_39247 10 = .ok (.newarray .byte, 2) := by decide +kernel
theorem dJ7_copyOfRangeByte_39247_12 : decode cJ7_copyOfRangeByte_39247 12 = .ok (.astore 4, 2) := by decide +kernel
theorem dJ7_copyOfRangeByte_39247_14 : decode cJ7_copyOfRangeByte_39247 14 = .ok (.aload_n 0, 1) := by decide +kernel
theorem dJ7_copyOfRangeByte_39247_15 : decode cJ7_copyOfRangeByte_39247 15 = .ok (.iload_n 1, 1) := by decide +kernel
theorem dJ7_copyOfRangeByte_39247_16 : decode cJ7_copyOfRangeByte_39247 16 = .ok (.aload 4, 2) := by decide +kernel
theorem dJ7_copyOfRangeByte_39247_18 : decode cJ7_copyOfRangeByte_39247 18 = .ok (.iconst 0, 1) := by decide +kernel
theorem dJ7_copyOfRangeByte_39247_19 : decode cJ7_copyOfRangeByte_39247 19 = .ok (.aload_n 0, 1) := by decide +kernel
theorem dJ7_copyOfRangeByte_39247_20 : decode cJ7_copyOfRangeByte_39247 20 = .ok (.arraylength, 1) := by decide +kernel
theorem dJ7_copyOfRangeByte_39247_21 : decode cJ7_copyOfRangeByte_39247 21 = .ok (.iload_n 1, 1) := by decide +kernel
theorem dJ7_copyOfRangeByte_39247_22 : decode cJ7_copyOfRangeByte_39247 22 = .ok (.isub, 1) := by decide +kernel
theorem dJ7_copyOfRangeByte_39247_23 : decode cJ7_copyOfRangeByte_39247 23 = .ok (.iload_n 3, 1) := by decide +kernel
theorem dJ7_copyOfRangeByte_39247_24 : decode cJ7_copyOfRangeByte_39247 24 = .ok (.invokestatic 304, 3) := by decide +kernel
theorem dJ7_copyOfRangeByte_39247_27 : decode cJ7_copyOfRangeByte_39247 27 = .ok (.invokestatic 150, 3) := by decide +kernel
theorem dJ7_copyOfRangeByte_39247_30 : decode cJ7_copyOfRangeByte_39247 30 = .ok (.aload 4, 2) := by decide +kernel
theorem dJ7_copyOfRangeByte_39247_32 : decode cJ7_copyOfRangeByte_39247 32 = .ok (.areturn, 1) := by decide +kernel
theorem dJ8_newLength_cabcc_0 : decode cJ8_newLength_cabcc 0 = .ok (.iload_n 0, 1) := by decide +kernel
theorem dJ8_newLength_cabcc_1 : decode cJ8_newLength_cabcc 1 = .ok (.iload_n 1, 1) := by decide +kernel
theorem dJ8_newLength_cabcc_2 : decode cJ8_newLength_cabcc 2 = .ok (.iload_n 2, 1) := by decide +kernel
theorem dJ8_newLength_cabcc_3 : decode cJ8_newLength_cabcc 3 = .ok (.invokestatic 194, 3) := by decide +kernel
theorem dJ8_newLength_cabcc_6 : decode cJ8_newLength_cabcc 6 = .ok (.iadd, 1) := by decide +kernel
theorem dJ8_newLength_cabcc_7 : decode cJ8_newLength_cabcc 7 = .ok (.istore_n 3, 1) := by decide +kernel
theorem dJ8_newLength_cabcc_8 : decode cJ8_newLength_cabcc 8 = .ok (.iconst 0, 1) := by decide +kernel
theorem dJ8_newLength_cabcc_9 : decode cJ8_newLength_cabcc 9 = .ok (.iload_n 3, 1) := by decide +kernel
theorem dJ8_newLength_cabcc_10 : decode cJ8_newLength_cabcc 10 = .ok (.if_icmp .ge 11, 3) := by decide +kernel
theorem dJ8_newLength_cabcc_13 : decode cJ8_newLength_cabcc 13 = .ok (.iload_n 3, 1) := by decide +kernel
theorem dJ8_newLength_cabcc_14 : decode cJ8_newLength_cabcc 14 = .ok (.ldc 200, 2) := by decide +kernel
theorem dJ8_newLength_cabcc_16 : decode cJ8_newLength_cabcc 16 = .ok (.if_icmp .gt 5, 3) := by decide +kernel
theorem dJ8_newLength_cabcc_19 : decode cJ8_newLength_cabcc 19 = .ok (.iload_n 3, 1) := by decide +kernel
theorem dJ8_newLength_cabcc_20 : decode cJ8_newLength_cabcc 20 = .ok (.ireturn, 1) := by decide +kernel
theorem dJ8_newLength_cabcc_21 : decode cJ8_newLength_cabcc 21 = .ok (.iload_n 0, 1) := by decide +kernel
theorem dJ8_newLength_cabcc_22 : decode cJ8_newLength_cabcc 22 = .ok (.iload_n 1, 1) := by decide +kernel
theorem dJ8_newLength_cabcc_23 : decode cJ8_newLength_cabcc 23 = .ok (.invokestatic 201, 3) := by decide +kernel
theorem dJ8_newLength_cabcc_26 : decode cJ8_newLength_cabcc 26 = .ok (.ireturn, 1) := by decide +kernel
theorem dJ8_hugeLength_7cf53_0 : decode cJ8_hugeLength_7cf53 0 = .ok (.iload_n 0, 1) := by decide +kernel
theorem dJ8_hugeLength_7cf53_1 : decode cJ8_hugeLength_7cf53 1 = .ok (.iload_n 1, 1) := by decide +kernel
theorem dJ8_hugeLength_7cf53_2 : decode cJ8_hugeLength_7cf53 2 = .ok (.iadd, 1) := by decide +kernel
theorem dJ8_hugeLength_7cf53_3 : decode cJ8_hugeLength_7cf53 3 = .ok (.istore_n 2, 1) := by decide +kernel
theorem dJ8_hugeLength_7cf53_4 : decode cJ8_hugeLength_7cf53 4 = .ok (.iload_n 2, 1) := by decide +kernel
theorem dJ8_hugeLength_7cf53_5 : decode cJ8_hugeLength_7cf53 5 = .ok (.ifCond .ge 44, 3) := by decide +kernel
theorem dJ8_hugeLength_7cf53_8 : decode cJ8_hugeLength_7cf53 8 = .ok (.new 204, 3) := by decide +kernel
theorem dJ8_hugeLength_7cf53_11 : decode cJ8_hugeLength_7cf53 11 = .ok (.dup, 1) := by decide +kernel
theorem dJ8_hugeLength_7cf53_12 : decode cJ8_hugeLength_7cf53 12 = .ok (.new 89, 3) := by decide +kernel
theorem dJ8_hugeLength_7cf53_15 : decode cJ8_hugeLength_7cf53 15 = .ok (.dup, 1) := by decide +kernel
theorem dJ8_hugeLength_7cf53_16 : decode cJ8_hugeLength_7cf53 16 = .ok (.invokespecial 91, 3) := by decide +kernel
theorem dJ8_hugeLength_7cf53_19 : decode cJ8_hugeLength_7cf53 19 = .ok (.ldc 206, 2) := by decide +kernel
theorem dJ8_hugeLength_7cf53_21 : decode cJ8_hugeLength_7cf53 21 = .ok (.invokevirtual 94, 3) := by decide +kernel
theorem dJ8_hugeLength_7cf53_24 : decode cJ8_hugeLength_7cf53 24 = .ok (.iload_n 0, 1) := by decide +kernel
theorem dJ8_hugeLength_7cf53_25 : decode cJ8_hugeLength_7cf53 25 = .ok (.invokevirtual 98, 3) := by decide +kernel
theorem dJ8_hugeLength_7cf53_28 : decode cJ8_hugeLength_7cf53 28 = .ok (.ldc 208, 2) := by decide +kernel
theorem dJ8_hugeLength_7cf53_30 : decode cJ8_hugeLength_7cf53 30 = .ok (.invokevirtual 94, 3) := by decide +kernel
theorem dJ8_hugeLength_7cf53_33 : decode cJ8_hugeLength_7cf53 33 = .ok (.iload_n 1, 1) := by decide +kernel
theorem dJ8_hugeLength_7cf53_34 : decode cJ8_hugeLength_7cf53 34 = .ok (.invokevirtual 98, 3) := by decide +kernel
theorem dJ8_hugeLength_7cf53_37 : decode cJ8_hugeLength_7cf53 37 = .ok (.ldc 210, 2) := by decide +kernel
theorem dJ8_hugeLength_7cf53_39 : decode cJ8_hugeLength_7cf53 39 = .ok (.invokevirtual 94, 3) := by decide +kernel
theorem dJ8_hugeLength_7cf53_42 : decode cJ8_hugeLength_7cf53 42 = .ok (.invokevirtual 101, 3) := by decide +kernel
theorem dJ8_hugeLength_7cf53_45 : decode cJ8_hugeLength_7cf53 45 = .ok (.invokespecial 212, 3) := by decide +kernel
theorem dJ8_hugeLength_7cf53_48 : decode cJ8_hugeLength_7cf53 48 = .ok (.athrow, 1) := by decide +kernel
theorem dJ8_hugeLength_7cf53_49 : decode cJ8_hugeLength_7cf53 49 = .ok (.iload_n 2, 1) := by decide +kernel
theorem dJ8_hugeLength_7cf53_50 : decode cJ8_hugeLength_7cf53 50 = .ok (.ldc 200, 2) := by decide +kernel
theorem dJ8_hugeLength_7cf53_52 : decode cJ8_hugeLength_7cf53 52 = .ok (.if_icmp .gt 6, 3) := by decide +kernel
theorem dJ8_hugeLength_7cf53_55 : decode cJ8_hugeLength_7cf53 55 = .ok (.ldc 200, 2) := by decide +kernel
theorem dJ8_hugeLength_7cf53_57 : decode cJ8_hugeLength_7cf53 57 = .ok (.ireturn, 1) := by decide +kernel
theorem dJ8_hugeLength_7cf53_58 : decode cJ8_hugeLength_7cf53 58 = .ok (.iload_n 2, 1) := by decide +kernel
theorem dJ8_hugeLength_7cf53_59 : decode cJ8_hugeLength_7cf53 59 = .ok (.ireturn, 1) := by decide +kernel
theorem dJ3_checkIndex_8e157_0 : decode cJ3_checkIndex_8e157 0 = .ok (.iload_n 0, 1) := by decide +kernel
theorem dJ3_checkIndex_8e157_1 : decode cJ3_checkIndex_8e157 1 = .ok (.ifCond .lt 8, 3) := by decide +kernel
theorem dJ3_checkIndex_8e157_4 : decode cJ3_checkIndex_8e157 4 = .ok (.iload_n 0, 1) := by decide +kernel
theorem dJ3_checkIndex_8e157_5 : decode cJ3_checkIndex_8e157 5 = .ok (.iload_n 1, 1) := by decide +kernel
theorem dJ3_checkIndex_8e157_6 : decode cJ3_checkIndex_8e157 6 = .ok (.if_icmp .lt 10, 3) := by decide +kernel
theorem dJ3_checkIndex_8e157_9 : decode cJ3_checkIndex_8e157 9 = .ok (.aload_n 2, 1) := by decide +kernel
theorem dJ3_checkIndex_8e157_10 : decode cJ3_checkIndex_8e157 10 = .ok (.iload_n 0, 1) := by decide +kernel
theorem dJ3_checkIndex_8e157_11 : decode cJ3_checkIndex_8e157 11 = .ok (.iload_n 1, 1) := by decide +kernel
theorem dJ3_checkIndex_8e157_12 : decode cJ3_checkIndex_8e157 12 = .ok (.invokestatic 95, 3) := by decide +kernel
theorem dJ3_checkIndex_8e157_15 : decode cJ3_checkIndex_8e157 15 = .ok (.athrow, 1) := by decide +kernel
theorem dJ3_checkIndex_8e157_16 : decode cJ3_checkIndex_8e157 16 = .ok (.iload_n 0, 1) := by decide +kernel
theorem dJ3_checkIndex_8e157_17 : decode cJ3_checkIndex_8e157 17 = .ok (.ireturn, 1) := by decide +kernel
theorem dJ3_checkFromToIndex_8c36e_0 : decode cJ3_checkFromToIndex_8c36e 0 = .ok (.iload_n 0, 1) := by decide +kernel
theorem dJ3_checkFromToIndex_8c36e_1 : decode cJ3_checkFromToIndex_8c36e 1 = .ok (.ifCond .lt 13, 3) := by decide +kernel
theorem dJ3_checkFromToIndex_8c36e_4 : decode cJ3_checkFromToIndex_8c36e 4 = .ok (.iload_n 0, 1) := by decide +kernel
theorem dJ3_checkFromToIndex_8c36e_5 : decode cJ3_checkFromToIndex_8c36e 5 = .ok (.iload_n 1, 1) := by decide +kernel
theorem dJ3_checkFromToIndex_8c36e_6 : decode cJ3_checkFromToIndex_8c36e 6 = .ok (.if_icmp .gt 8, 3) := by decide +kernel
theorem dJ3_checkFromToIndex_8c36e_9 : decode cJ3_checkFromToIndex_8c36e 9 = .ok (.iload_n 1, 1) := by decide +kernel
theorem dJ3_checkFromToIndex_8c36e_10 : decode cJ3_checkFromToIndex_8c36e 10 = .ok (.iload_n 2, 1) := by decide +kernel
theorem dJ3_checkFromToIndex_8c36e_11 : decode cJ3_checkFromToIndex_8c36e 11 = .ok (.if_icmp .le 11, 3) := by decide +kernel
theorem dJ3_checkFromToIndex_8c36e_14 : decode cJ3_checkFromToIndex_8c36e 14 = .ok (.aload_n 3, 1) := by decide +kernel
theorem dJ3_checkFromToIndex_8c36e_15 : decode cJ3_checkFromToIndex_8c36e 15 = .ok (.iload_n 0, 1) := by decide +kernel
theorem dJ3_checkFromToIndex_8c36e_16 : decode cJ3_checkFromToIndex_8c36e 16 = .ok (.iload_n 1, 1) := by decide +kernel
theorem dJ3_checkFromToIndex_8c36e_17 : decode cJ3_checkFromToIndex_8c36e 17 = .ok (.iload_n 2, 1) := by decide +kernel
theorem dJ3_checkFromToIndex_8c36e_18 : decode cJ3_checkFromToIndex_8c36e 18 = .ok (.invokestatic 99, 3) := by decide +kernel
theorem dJ3_checkFromToIndex_8c36e_21 : decode cJ3_checkFromToIndex_8c36e 21 = .ok (.athrow, 1) := by decide +kernel
theorem dJ3_checkFromToIndex_8c36e_22 : decode cJ3_checkFromToIndex_8c36e 22 = .ok (.iload_n 0, 1) := by decide +kernel
theorem dJ3_checkFromToIndex_8c36e_23 : decode cJ3_checkFromToIndex_8c36e 23 = .ok (.ireturn, 1) := by decide +kernel
theorem dJ3_checkFromIndexSize_8c36e_0 : decode cJ3_checkFromIndexSize_8c36e 0 = .ok (.iload_n 2, 1) := by decide +kernel
theorem dJ3_checkFromIndexSize_8c36e_1 : decode cJ3_checkFromIndexSize_8c36e 1 = .ok (.iload_n 0, 1) := by decide +kernel
theorem dJ3_checkFromIndexSize_8c36e_2 : decode cJ3_checkFromIndexSize_8c36e 2 = .ok (.ior, 1) := by decide +kernel
theorem dJ3_checkFromIndexSize_8c36e_3 : decode cJ3_checkFromIndexSize_8c36e 3 = .ok (.iload_n 1, 1) := by decide +kernel
theorem dJ3_checkFromIndexSize_8c36e_4 : decode cJ3_checkFromIndexSize_8c36e 4 = .ok (.ior, 1) := by decide +kernel
theorem dJ3_checkFromIndexSize_8c36e_5 : decode cJ3_checkFromIndexSize_8c36e 5 = .ok (.ifCond .lt 10, 3) := by decide +kernel
theorem dJ3_checkFromIndexSize_8c36e_8 : decode cJ3_checkFromIndexSize_8c36e 8 = .ok (.iload_n 1, 1) := by decide +kernel
theorem dJ3_checkFromIndexSize_8c36e_9 : decode cJ3_checkFromIndexSize_8c36e 9 = .ok (.iload_n 2, 1) := by decide +kernel
theorem dJ3_checkFromIndexSize_8c36e_10 : decode cJ3_checkFromIndexSize_8c36e 10 = .ok (.iload_n 0, 1) := by decide +kernel
theorem dJ3_checkFromIndexSize_8c36e_11 : decode cJ3_checkFromIndexSize_8c36e 11 = .ok (.isub, 1) := by decide +kernel
theorem dJ3_checkFromIndexSize_8c36e_12 : decode cJ3_checkFromIndexSize_8c36e 12 = .ok (.if_icmp .le 11, 3) := by decide +kernel
theorem dJ3_checkFromIndexSize_8c36e_15 : decode cJ3_checkFromIndexSize_8c36e 15 = .ok (.aload_n 3, 1) := by decide +kernel
theorem dJ3_checkFromIndexSize_8c36e_16 : decode cJ3_checkFromIndexSize_8c36e 16 = .ok (.iload_n 0, 1) := by decide +kernel
theorem dJ3_checkFromIndexSize_8c36e_17 : decode cJ3_checkFromIndexSize_8c36e 17 = .ok (.iload_n 1, 1) := by decide +kernel
theorem dJ3_checkFromIndexSize_8c36e_18 : decode cJ3_checkFromIndexSize_8c36e 18 = .ok (.iload_n 2, 1) := by decide +kernel
theorem dJ3_checkFromIndexSize_8c36e_19 : decode cJ3_checkFromIndexSize_8c36e 19 = .ok (.invokestatic 103, 3) := by decide +kernel
theorem dJ3_checkFromIndexSize_8c36e_22 : decode cJ3_checkFromIndexSize_8c36e 22 = .ok (.athrow, 1) := by decide +kernel
theorem dJ3_checkFromIndexSize_8c36e_23 : decode cJ3_checkFromIndexSize_8c36e 23 = .ok (.iload_n 0, 1) := by decide +kernel
theorem dJ3_checkFromIndexSize_8c36e_24 : decode cJ3_checkFromIndexSize_8c36e 24 = .ok (.ireturn, 1) := by decide +kernel
theorem dL_init_0 : decode cL_init 0 = .ok (.aload_n 0, 1) := by decide +kernel
theorem dL_init_1 : decode cL_init 1 = .ok (.invokespecial 1, 3) := by decide +kernel
theorem dL_init_4 : decode cL_init 4 = .ok (.aload_n 0, 1) := by decide +kernel
theorem dL_init_5 : decode cL_init 5 = .ok (.bipush 40, 2) := by decide +kernel
theorem dL_init_7 : decode cL_init 7 = .ok (.bipush 64, 2) := by decide +kernel
theorem dL_init_9 : decode cL_init 9 = .ok (.multianewarray 7 2, 4) := by decide +kernel
theorem dL_init_13 : decode cL_init 13 = .ok (.putfield 9, 3) := by decide +kernel
theorem dL_init_16 : decode cL_init 16 = .ok (.aload_n 0, 1) := by decide +kernel
theorem dL_init_17 : decode cL_init 17 = .ok (.bipush 40, 2) := by decide +kernel
theorem dL_init_19 : decode cL_init 19 = .ok (.newarray .int, 2) := by decide +kernel
theorem dL_init_21 : decode cL_init 21 = .ok (.putfield 14, 3) := by decide +kernel
theorem dL_init_24 : decode cL_init 24 = .ok (.aload_n 0, 1) := by decide +kernel
theorem dL_init_25 : decode cL_init 25 = .ok (.bipush 40, 2) := by decide +kernel
theorem dL_init_27 : decode cL_init 27 = .ok (.newarray .int, 2) := by decide +kernel
theorem dL_init_29 : decode cL_init 29 = .ok (.putfield 18, 3) := by decide +kernel
theorem dL_init_32 : decode cL_init 32 = .ok (.aload_n 0, 1) := by decide +kernel
theorem dL_init_33 : decode cL_init 33 = .ok (.bipush 40, 2) := by decide +kernel
theorem dL_init_35 : decode cL_init 35 = .ok (.newarray .boolean, 2) := by decide +kernel
theorem dL_init_37 : decode cL_init 37 = .ok (.putfield 21, 3) := by decide +kernel
theorem dL_init_40 : decode cL_init 40 = .ok (.aload_n 0, 1) := by decide +kernel
theorem dL_init_41 : decode cL_init 41 = .ok (.sipush 200, 3) := by decide +kernel
theorem dL_init_44 : decode cL_init 44 = .ok (.iconst 4, 1) := by decide +kernel
theorem dL_init_45 : decode cL_init 45 = .ok (.multianewarray 7 2, 4) := by decide +kernel
theorem dL_init_49 : decode cL_init 49 = .ok (.putfield 25, 3) := by decide +kernel
theorem dL_init_52 : decode cL_init 52 = .ok (.aload_n 0, 1) := by decide +kernel
theorem dL_init_53 : decode cL_init 53 = .ok (.sipush 200, 3) := by decide +kernel
theorem dL_init_56 : decode cL_init 56 = .ok (.newarray .boolean, 2) := by decide +kernel
theorem dL_init_58 : decode cL_init 58 = .ok (.putfield 28, 3) := by decide +kernel
theorem dL_init_61 : decode cL_init 61 = .ok (.aload_n 0, 1) := by decide +kernel
theorem dL_init_62 : decode cL_init 62 = .ok (.iconst 1, 1) := by decide +kernel
theorem dL_init_63 : decode cL_init 63 = .ok (.putfield 31, 3) := by decide +kernel
theorem dL_init_66 : decode cL_init 66 = .ok (.return_, 1) := by decide +kernel
theorem dL_cell_0 : decode cL_cell 0 = .ok (.iload_n 1, 1) := by decide +kernel
theorem dL_cell_1 : decode cL_cell 1 = .ok (.aload_n 0, 1) := by decide +kernel
theorem dL_cell_2 : decode cL_cell 2 = .ok (.arraylength, 1) := by decide +kernel
theorem dL_cell_3 : decode cL_cell 3 = .ok (.if_icmp .ge 9, 3) := by decide +kernel
theorem dL_cell_6 : decode cL_cell 6 = .ok (.aload_n 0, 1) := by decide +kernel
theorem dL_cell_7 : decode cL_cell 7 = .ok (.iload_n 1, 1) := by decide +kernel
theorem dL_cell_8 : decode cL_cell 8 = .ok (.iaload, 1) := by decide +kernel
theorem dL_cell_9 : decode cL_cell 9 = .ok (.goto 10, 3) := by decide +kernel
theorem dL_cell_12 : decode cL_cell 12 = .ok (.bipush 113, 2) := by decide +kernel
theorem dL_cell_14 : decode cL_cell 14 = .ok (.iload_n 1, 1) := by decide +kernel
theorem dL_cell_15 : decode cL_cell 15 = .ok (.imul, 1) := by decide +kernel
theorem dL_cell_16 : decode cL_cell 16 = .ok (.bipush 67, 2) := by decide +kernel
theorem dL_cell_18 : decode cL_cell 18 = .ok (.iadd, 1) := by decide +kernel
theorem dL_cell_19 : decode cL_cell 19 = .ok (.ireturn, 1) := by decide +kernel
theorem dL_bits_0 : decode cL_bits 0 = .ok (.iload_n 0, 1) := by decide +kernel
theorem dL_bits_1 : decode cL_bits 1 = .ok (.iload_n 1, 1) := by decide +kernel
theorem dL_bits_2 : decode cL_bits 2 = .ok (.iushr, 1) := by decide +kernel
theorem dL_bits_3 : decode cL_bits 3 = .ok (.iconst 1, 1) := by decide +kernel
theorem dL_bits_4 : decode cL_bits 4 = .ok (.iload_n 2, 1) := by decide +kernel
theorem dL_bits_5 : decode cL_bits 5 = .ok (.ishl, 1) := by decide +kernel
theorem dL_bits_6 : decode cL_bits 6 = .ok (.iconst 1, 1) := by decide +kernel
theorem dL_bits_7 : decode cL_bits 7 = .ok (.isub, 1) := by decide +kernel
theorem dL_bits_8 : decode cL_bits 8 = .ok (.iand, 1) := by decide +kernel
theorem dL_bits_9 : decode cL_bits 9 = .ok (.ireturn, 1) := by decide +kernel
theorem dL_told_0 : decode cL_told 0 = .ok (.iconst 0, 1) := by decide +kernel
theorem dL_told_1 : decode cL_told 1 = .ok (.istore_n 2, 1) := by decide +kernel
theorem dL_told_2 : decode cL_told 2 = .ok (.iload_n 2, 1) := by decide +kernel
theorem dL_told_3 : decode cL_told 3 = .ok (.aload_n 1, 1) := by decide +kernel
theorem dL_told_4 : decode cL_told 4 = .ok (.invokevirtual 35, 3) := by decide +kernel
theorem dL_told_7 : decode cL_told 7 = .ok (.if_icmp .ge 89, 3) := by decide +kernel
theorem dL_told_10 : decode cL_told 10 = .ok (.iconst 5, 1) := by decide +kernel
theorem dL_told_11 : decode cL_told 11 = .ok (.newarray .int, 2) := by decide +kernel
theorem dL_told_13 : decode cL_told 13 = .ok (.astore_n 3, 1) := by decide +kernel
theorem dL_told_14 : decode cL_told 14 = .ok (.iconst 0, 1) := by decide +kernel
theorem dL_told_15 : decode cL_told 15 = .ok (.istore 4, 2) := by decide +kernel
theorem dL_told_17 : decode cL_told 17 = .ok (.iload 4, 2) := by decide +kernel
theorem dL_told_19 : decode cL_told 19 = .ok (.bipush 20, 2) := by decide +kernel
theorem dL_told_21 : decode cL_told 21 = .ok (.if_icmp .ge 49, 3) := by decide +kernel
theorem dL_told_24 : decode cL_told 24 = .ok (.aload_n 3, 1) := by decide +kernel
theorem dL_told_25 : decode cL_told 25 = .ok (.iload 4, 2) := by decide +kernel
theorem dL_told_27 : decode cL_told 27 = .ok (.iconst 4, 1) := by decide +kernel
theorem dL_told_28 : decode cL_told 28 = .ok (.idiv, 1) := by decide +kernel
theorem dL_told_29 : decode cL_told 29 = .ok (.aload_n 3, 1) := by decide +kernel
theorem dL_told_30 : decode cL_told 30 = .ok (.iload 4, 2) := by decide +kernel
theorem dL_told_32 : decode cL_told 32 = .ok (.iconst 4, 1) := by decide +kernel
theorem dL_told_33 : decode cL_told 33 = .ok (.idiv, 1) := by decide +kernel
theorem dL_told_34 : decode cL_told 34 = .ok (.iaload, 1) := by decide +kernel
theorem dL_told_35 : decode cL_told 35 = .ok (.bipush 8, 2) := by decide +kernel
theorem dL_told_37 : decode cL_told 37 = .ok (.ishl, 1) := by decide +kernel
theorem dL_told_38 : decode cL_told 38 = .ok (.iload_n 2, 1) := by decide +kernel
theorem dL_told_39 : decode cL_told 39 = .ok (.iload 4, 2) := by decide +kernel
theorem dL_told_41 : decode cL_told 41 = .ok (.iadd, 1) := by decide +kernel
theorem dL_told_42 : decode cL_told 42 = .ok (.aload_n 1, 1) := by decide +kernel
theorem dL_told_43 : decode cL_told 43 = .ok (.invokevirtual 35, 3) := by decide +kernel
theorem dL_told_46 : decode cL_told 46 = .ok (.if_icmp .ge 14, 3) := by decide +kernel
theorem dL_told_49 : decode cL_told 49 = .ok (.aload_n 1, 1) := by decide +kernel
theorem dL_told_50 : decode cL_told 50 = .ok (.iload_n 2, 1) := by decide +kernel
theorem dL_told_51 : decode cL_told 51 = .ok (.iload 4, 2) := by decide +kernel
theorem dL_told_53 : decode cL_told 53 = .ok (.iadd, 1) := by decide +kernel
theorem dL_told_54 : decode cL_told 54 = .ok (.invokevirtual 41, 3) := by decide +kernel
theorem dL_told_57 : decode cL_told 57 = .ok (.goto 5, 3) := by decide +kernel
theorem dL_told_60 : decode cL_told 60 = .ok (.bipush 32, 2) := by decide +kernel
theorem dL_told_62 : decode cL_told 62 = .ok (.ior, 1) := by decide +kernel
theorem dL_told_63 : decode cL_told 63 = .ok (.iastore, 1) := by decide +kernel
theorem dL_told_64 : decode cL_told 64 = .ok (.iinc 4 1, 3) := by decide +kernel
theorem dL_told_67 : decode cL_told 67 = .ok (.goto (-50), 3) := by decide +kernel
theorem dL_told_70 : decode cL_told 70 = .ok (.aload_n 0, 1) := by decide +kernel
theorem dL_told_71 : decode cL_told 71 = .ok (.aload_n 3, 1) := by decide +kernel
theorem dL_told_72 : decode cL_told 72 = .ok (.iconst 0, 1) := by decide +kernel
theorem dL_told_73 : decode cL_told 73 = .ok (.iaload, 1) := by decide +kernel
theorem dL_told_74 : decode cL_told 74 = .ok (.aload_n 3, 1) := by decide +kernel
theorem dL_told_75 : decode cL_told 75 = .ok (.iconst 1, 1) := by decide +kernel
theorem dL_told_76 : decode cL_told 76 = .ok (.iaload, 1) := by decide +kernel
theorem dL_told_77 : decode cL_told 77 = .ok (.aload_n 3, 1) := by decide +kernel
theorem dL_told_78 : decode cL_told 78 = .ok (.iconst 2, 1) := by decide +kernel
theorem dL_told_79 : decode cL_told 79 = .ok (.iaload, 1) := by decide +kernel
theorem dL_told_80 : decode cL_told 80 = .ok (.aload_n 3, 1) := by decide +kernel
theorem dL_told_81 : decode cL_told 81 = .ok (.iconst 3, 1) := by decide +kernel
theorem dL_told_82 : decode cL_told 82 = .ok (.iaload, 1) := by decide +kernel
theorem dL_told_83 : decode cL_told 83 = .ok (.aload_n 3, 1) := by decide +kernel
theorem dL_told_84 : decode cL_told 84 = .ok (.iconst 4, 1) := by decide +kernel
theorem dL_told_85 : decode cL_told 85 = .ok (.iaload, 1) := by decide +kernel
theorem dL_told_86 : decode cL_told 86 = .ok (.invokevirtual 45, 3) := by decide +kernel
theorem dL_told_89 : decode cL_told 89 = .ok (.pop, 1) := by decide +kernel
theorem dL_told_90 : decode cL_told 90 = .ok (.iinc 2 20, 3) := by decide +kernel
theorem dL_told_93 : decode cL_told 93 = .ok (.goto (-91), 3) := by decide +kernel
theorem dL_told_96 : decode cL_told 96 = .ok (.aload_n 0, 1) := by decide +kernel
theorem dL_told_97 : decode cL_told 97 = .ok (.aload_n 1, 1) := by decide +kernel
theorem dL_told_98 : decode cL_told 98 = .ok (.invokevirtual 35, 3) := by decide +kernel
theorem dL_told_101 : decode cL_told 101 = .ok (.invokevirtual 51, 3) := by decide +kernel
theorem dL_told_104 : decode cL_told 104 = .ok (.pop, 1) := by decide +kernel
theorem dL_told_105 : decode cL_told 105 = .ok (.return_, 1) := by decide +kernel
theorem dL_height_0 : decode cL_height 0 = .ok (.iload_n 1, 1) := by decide +kernel
theorem dL_height_1 : decode cL_height 1 = .ok (.ifCond .ne 7, 3) := by decide +kernel
theorem dL_height_4 : decode cL_height 4 = .ok (.iconst 0, 1) := by decide +kernel
theorem dL_height_5 : decode cL_height 5 = .ok (.goto 23, 3) := by decide +kernel
theorem dL_height_8 : decode cL_height 8 = .ok (.iload_n 1, 1) := by decide +kernel
theorem dL_height_9 : decode cL_height 9 = .ok (.iconst 4, 1) := by decide +kernel
theorem dL_height_10 : decode cL_height 10 = .ok (.if_icmp .gt 7, 3) := by decide +kernel
theorem dL_height_13 : decode cL_height 13 = .ok (.iconst 1, 1) := by decide +kernel
theorem dL_height_14 : decode cL_height 14 = .ok (.goto 14, 3) := by decide +kernel
theorem dL_height_17 : decode cL_height 17 = .ok (.iload_n 1, 1) := by decide +kernel
theorem dL_height_18 : decode cL_height 18 = .ok (.bipush 16, 2) := by decide +kernel
theorem dL_height_20 : decode cL_height 20 = .ok (.if_icmp .gt 7, 3) := by decide +kernel
theorem dL_height_23 : decode cL_height 23 = .ok (.iconst 2, 1) := by decide +kernel
theorem dL_height_24 : decode cL_height 24 = .ok (.goto 4, 3) := by decide +kernel
theorem dL_height_27 : decode cL_height 27 = .ok (.iconst 3, 1) := by decide +kernel
theorem dL_height_28 : decode cL_height 28 = .ok (.ireturn, 1) := by decide +kernel
theorem dL_makes_0 : decode cL_makes 0 = .ok (.aload_n 0, 1) := by decide +kernel
theorem dL_makes_1 : decode cL_makes 1 = .ok (.getfield 31, 3) := by decide +kernel
theorem dL_makes_4 : decode cL_makes 4 = .ok (.istore_n 3, 1) := by decide +kernel
theorem dL_makes_5 : decode cL_makes 5 = .ok (.iconst 0, 1) := by decide +kernel
theorem dL_makes_6 : decode cL_makes 6 = .ok (.istore 4, 2) := by decide +kernel
theorem dL_makes_8 : decode cL_makes 8 = .ok (.iload 4, 2) := by decide +kernel
theorem dL_makes_10 : decode cL_makes 10 = .ok (.iload_n 2, 1) := by decide +kernel
theorem dL_makes_11 : decode cL_makes 11 = .ok (.if_icmp .ge 38, 3) := by decide +kernel
theorem dL_makes_14 : decode cL_makes 14 = .ok (.iload 4, 2) := by decide +kernel
theorem dL_makes_16 : decode cL_makes 16 = .ok (.aload_n 0, 1) := by decide +kernel
theorem dL_makes_17 : decode cL_makes 17 = .ok (.getfield 14, 3) := by decide +kernel
theorem dL_makes_20 : decode cL_makes 20 = .ok (.iload_n 1, 1) := by decide +kernel
theorem dL_makes_21 : decode cL_makes 21 = .ok (.iaload, 1) := by decide +kernel
theorem dL_makes_22 : decode cL_makes 22 = .ok (.if_icmp .ge 27, 3) := by decide +kernel
theorem dL_makes_25 : decode cL_makes 25 = .ok (.aload_n 0, 1) := by decide +kernel
theorem dL_makes_26 : decode cL_makes 26 = .ok (.getfield 9, 3) := by decide +kernel
theorem dL_makes_29 : decode cL_makes 29 = .ok (.iload_n 3, 1) := by decide +kernel
theorem dL_makes_30 : decode cL_makes 30 = .ok (.aaload, 1) := by decide +kernel
theorem dL_makes_31 : decode cL_makes 31 = .ok (.iload 4, 2) := by decide +kernel
theorem dL_makes_33 : decode cL_makes 33 = .ok (.aload_n 0, 1) := by decide +kernel
theorem dL_makes_34 : decode cL_makes 34 = .ok (.getfield 9, 3) := by decide +kernel
theorem dL_makes_37 : decode cL_makes 37 = .ok (.iload_n 1, 1) := by decide +kernel
theorem dL_makes_38 : decode cL_makes 38 = .ok (.aaload, 1) := by decide +kernel
theorem dL_makes_39 : decode cL_makes 39 = .ok (.iload 4, 2) := by decide +kernel
theorem dL_makes_41 : decode cL_makes 41 = .ok (.iaload, 1) := by decide +kernel
theorem dL_makes_42 : decode cL_makes 42 = .ok (.iastore, 1) := by decide +kernel
theorem dL_makes_43 : decode cL_makes 43 = .ok (.iinc 4 1, 3) := by decide +kernel
theorem dL_makes_46 : decode cL_makes 46 = .ok (.goto (-38), 3) := by decide +kernel
theorem dL_makes_49 : decode cL_makes 49 = .ok (.aload_n 0, 1) := by decide +kernel
theorem dL_makes_50 : decode cL_makes 50 = .ok (.getfield 14, 3) := by decide +kernel
theorem dL_makes_53 : decode cL_makes 53 = .ok (.iload_n 3, 1) := by decide +kernel
theorem dL_makes_54 : decode cL_makes 54 = .ok (.iload_n 2, 1) := by decide +kernel
theorem dL_makes_55 : decode cL_makes 55 = .ok (.iastore, 1) := by decide +kernel
theorem dL_makes_56 : decode cL_makes 56 = .ok (.aload_n 0, 1) := by decide +kernel
theorem dL_makes_57 : decode cL_makes 57 = .ok (.getfield 18, 3) := by decide +kernel
theorem dL_makes_60 : decode cL_makes 60 = .ok (.iload_n 3, 1) := by decide +kernel
theorem dL_makes_61 : decode cL_makes 61 = .ok (.iload_n 1, 1) := by decide +kernel
theorem dL_makes_62 : decode cL_makes 62 = .ok (.iastore, 1) := by decide +kernel
theorem dL_makes_63 : decode cL_makes 63 = .ok (.aload_n 0, 1) := by decide +kernel
theorem dL_makes_64 : decode cL_makes 64 = .ok (.dup, 1) := by decide +kernel
theorem dL_makes_65 : decode cL_makes 65 = .ok (.getfield 31, 3) := by decide +kernel
theorem dL_makes_68 : decode cL_makes 68 = .ok (.iconst 1, 1) := by decide +kernel
theorem dL_makes_69 : decode cL_makes 69 = .ok (.iadd, 1) := by decide +kernel
theorem dL_makes_70 : decode cL_makes 70 = .ok (.putfield 31, 3) := by decide +kernel
theorem dL_makes_73 : decode cL_makes 73 = .ok (.iload_n 3, 1) := by decide +kernel
theorem dL_makes_74 : decode cL_makes 74 = .ok (.ireturn, 1) := by decide +kernel
theorem dL_isRefused_0 : decode cL_isRefused 0 = .ok (.iload_n 1, 1) := by decide +kernel
theorem dL_isRefused_1 : decode cL_isRefused 1 = .ok (.ifCond .ne 14, 3) := by decide +kernel
theorem dL_isRefused_4 : decode cL_isRefused 4 = .ok (.aload_n 0, 1) := by decide +kernel
theorem dL_isRefused_5 : decode cL_isRefused 5 = .ok (.iload_n 2, 1) := by decide +kernel
theorem dL_isRefused_6 : decode cL_isRefused 6 = .ok (.iload_n 3, 1) := by decide +kernel
theorem dL_isRefused_7 : decode cL_isRefused 7 = .ok (.iload 4, 2) := by decide +kernel
theorem dL_isRefused_9 : decode cL_isRefused 9 = .ok (.invokevirtual 55, 3) := by decide +kernel
theorem dL_isRefused_12 : decode cL_isRefused 12 = .ok (.goto 37, 3) := by decide +kernel
theorem dL_isRefused_15 : decode cL_isRefused 15 = .ok (.iload_n 1, 1) := by decide +kernel
theorem dL_isRefused_16 : decode cL_isRefused 16 = .ok (.iconst 1, 1) := by decide +kernel
theorem dL_isRefused_17 : decode cL_isRefused 17 = .ok (.if_icmp .ne 13, 3) := by decide +kernel
theorem dL_isRefused_20 : decode cL_isRefused 20 = .ok (.aload_n 0, 1) := by decide +kernel
theorem dL_isRefused_21 : decode cL_isRefused 21 = .ok (.iload_n 2, 1) := by decide +kernel
theorem dL_isRefused_22 : decode cL_isRefused 22 = .ok (.iload 4, 2) := by decide +kernel
theorem dL_isRefused_24 : decode cL_isRefused 24 = .ok (.invokevirtual 59, 3) := by decide +kernel
theorem dL_isRefused_27 : decode cL_isRefused 27 = .ok (.goto 22, 3) := by decide +kernel
theorem dL_isRefused_30 : decode cL_isRefused 30 = .ok (.iload_n 1, 1) := by decide +kernel
theorem dL_isRefused_31 : decode cL_isRefused 31 = .ok (.iconst 2, 1) := by decide +kernel
theorem dL_isRefused_32 : decode cL_isRefused 32 = .ok (.if_icmp .ne 12, 3) := by decide +kernel
theorem dL_isRefused_35 : decode cL_isRefused 35 = .ok (.aload_n 0, 1) := by decide +kernel
theorem dL_isRefused_36 : decode cL_isRefused 36 = .ok (.iload_n 2, 1) := by decide +kernel
theorem dL_isRefused_37 : decode cL_isRefused 37 = .ok (.iload_n 3, 1) := by decide +kernel
theorem dL_isRefused_38 : decode cL_isRefused 38 = .ok (.invokevirtual 63, 3) := by decide +kernel
theorem dL_isRefused_41 : decode cL_isRefused 41 = .ok (.goto 8, 3) := by decide +kernel
theorem dL_isRefused_44 : decode cL_isRefused 44 = .ok (.aload_n 0, 1) := by decide +kernel
theorem dL_isRefused_45 : decode cL_isRefused 45 = .ok (.iload_n 2, 1) := by decide +kernel
theorem dL_isRefused_46 : decode cL_isRefused 46 = .ok (.invokevirtual 66, 3) := by decide +kernel
theorem dL_isRefused_49 : decode cL_isRefused 49 = .ok (.istore 5, 2) := by decide +kernel
theorem dL_isRefused_51 : decode cL_isRefused 51 = .ok (.iconst 0, 1) := by decide +kernel
theorem dL_isRefused_52 : decode cL_isRefused 52 = .ok (.ireturn, 1) := by decide +kernel
theorem dL_isRefused_53 : decode cL_isRefused 53 = .ok (.astore 5, 2) := by decide +kernel
theorem dL_isRefused_55 : decode cL_isRefused 55 = .ok (.iconst 1, 1) := by decide +kernel
theorem dL_isRefused_56 : decode cL_isRefused 56 = .ok (.ireturn, 1) := by decide +kernel
theorem dL_acts_0 : decode cL_acts 0 = .ok (.iload_n 2, 1) := by decide +kernel
theorem dL_acts_1 : decode cL_acts 1 = .ok (.iconst 4, 1) := by decide +kernel
theorem dL_acts_2 : decode cL_acts 2 = .ok (.bipush 6, 2) := by decide +kernel
theorem dL_acts_4 : decode cL_acts 4 = .ok (.invokestatic 72, 3) := by decide +kernel
theorem dL_acts_7 : decode cL_acts 7 = .ok (.aload_n 0, 1) := by decide +kernel
theorem dL_acts_8 : decode cL_acts 8 = .ok (.getfield 31, 3) := by decide +kernel
theorem dL_acts_11 : decode cL_acts 11 = .ok (.irem, 1) := by decide +kernel
theorem dL_acts_12 : decode cL_acts 12 = .ok (.istore_n 3, 1) := by decide +kernel
theorem dL_acts_13 : decode cL_acts 13 = .ok (.iload_n 2, 1) := by decide +kernel
theorem dL_acts_14 : decode cL_acts 14 = .ok (.bipush 10, 2) := by decide +kernel
theorem dL_acts_16 : decode cL_acts 16 = .ok (.bipush 7, 2) := by decide +kernel
theorem dL_acts_18 : decode cL_acts 18 = .ok (.invokestatic 72, 3) := by decide +kernel
theorem dL_acts_21 : decode cL_acts 21 = .ok (.bipush 64, 2) := by decide +kernel
theorem dL_acts_23 : decode cL_acts 23 = .ok (.isub, 1) := by decide +kernel
theorem dL_acts_24 : decode cL_acts 24 = .ok (.istore 4, 2) := by decide +kernel
theorem dL_acts_26 : decode cL_acts 26 = .ok (.aload_n 0, 1) := by decide +kernel
theorem dL_acts_27 : decode cL_acts 27 = .ok (.getfield 14, 3) := by decide +kernel
theorem dL_acts_30 : decode cL_acts 30 = .ok (.iload_n 3, 1) := by decide +kernel
theorem dL_acts_31 : decode cL_acts 31 = .ok (.iaload, 1) := by decide +kernel
theorem dL_acts_32 : decode cL_acts 32 = .ok (.ifCond .ne 7, 3) := by decide +kernel
theorem dL_acts_35 : decode cL_acts 35 = .ok (.iconst 0, 1) := by decide +kernel
theorem dL_acts_36 : decode cL_acts 36 = .ok (.goto 18, 3) := by decide +kernel
theorem dL_acts_39 : decode cL_acts 39 = .ok (.iload_n 2, 1) := by decide +kernel
theorem dL_acts_40 : decode cL_acts 40 = .ok (.bipush 17, 2) := by decide +kernel
theorem dL_acts_42 : decode cL_acts 42 = .ok (.bipush 6, 2) := by decide +kernel
theorem dL_acts_44 : decode cL_acts 44 = .ok (.invokestatic 72, 3) := by decide +kernel
theorem dL_acts_47 : decode cL_acts 47 = .ok (.aload_n 0, 1) := by decide +kernel
theorem dL_acts_48 : decode cL_acts 48 = .ok (.getfield 14, 3) := by decide +kernel
theorem dL_acts_51 : decode cL_acts 51 = .ok (.iload_n 3, 1) := by decide +kernel
theorem dL_acts_52 : decode cL_acts 52 = .ok (.iaload, 1) := by decide +kernel
theorem dL_acts_53 : decode cL_acts 53 = .ok (.irem, 1) := by decide +kernel
theorem dL_acts_54 : decode cL_acts 54 = .ok (.istore 5, 2) := by decide +kernel
theorem dL_acts_56 : decode cL_acts 56 = .ok (.aload_n 0, 1) := by decide +kernel
theorem dL_acts_57 : decode cL_acts 57 = .ok (.getfield 21, 3) := by decide +kernel
theorem dL_acts_60 : decode cL_acts 60 = .ok (.iload_n 3, 1) := by decide +kernel
theorem dL_acts_61 : decode cL_acts 61 = .ok (.baload, 1) := by decide +kernel
theorem dL_acts_62 : decode cL_acts 62 = .ok (.ifCond .ne 16, 3) := by decide +kernel
theorem dL_acts_65 : decode cL_acts 65 = .ok (.aload_n 0, 1) := by decide +kernel
theorem dL_acts_66 : decode cL_acts 66 = .ok (.getfield 31, 3) := by decide +kernel
theorem dL_acts_69 : decode cL_acts 69 = .ok (.bipush 40, 2) := by decide +kernel
theorem dL_acts_71 : decode cL_acts 71 = .ok (.if_icmp .ge 7, 3) := by decide +kernel
theorem dL_acts_74 : decode cL_acts 74 = .ok (.iconst 1, 1) := by decide +kernel
theorem dL_acts_75 : decode cL_acts 75 = .ok (.goto 4, 3) := by decide +kernel
theorem dL_acts_78 : decode cL_acts 78 = .ok (.iconst 0, 1) := by decide +kernel
theorem dL_acts_79 : decode cL_acts 79 = .ok (.istore 6, 2) := by decide +kernel
theorem dL_acts_81 : decode cL_acts 81 = .ok (.iload_n 2, 1) := by decide +kernel
theorem dL_acts_82 : decode cL_acts 82 = .ok (.iconst 0, 1) := by decide +kernel
theorem dL_acts_83 : decode cL_acts 83 = .ok (.iconst 4, 1) := by decide +kernel
theorem dL_acts_84 : decode cL_acts 84 = .ok (.invokestatic 72, 3) := by decide +kernel
theorem dL_acts_87 : decode cL_acts 87 = .ok (.tableswitch 532 0 13 #[69, 69, 69, 69, 219, 219, 219, 219, 219, 219, 335, 335, 410, 486], 69) := by decide +kernel
theorem dL_acts_156 : decode cL_acts 156 = .ok (.aload_n 0, 1) := by decide +kernel
theorem dL_acts_157 : decode cL_acts 157 = .ok (.getfield 21, 3) := by decide +kernel
theorem dL_acts_160 : decode cL_acts 160 = .ok (.iload_n 3, 1) := by decide +kernel
theorem dL_acts_161 : decode cL_acts 161 = .ok (.baload, 1) := by decide +kernel
theorem dL_acts_162 : decode cL_acts 162 = .ok (.ifCond .ne 26, 3) := by decide +kernel
theorem dL_acts_165 : decode cL_acts 165 = .ok (.aload_n 0, 1) := by decide +kernel
theorem dL_acts_166 : decode cL_acts 166 = .ok (.getfield 14, 3) := by decide +kernel
theorem dL_acts_169 : decode cL_acts 169 = .ok (.iload_n 3, 1) := by decide +kernel
theorem dL_acts_170 : decode cL_acts 170 = .ok (.iaload, 1) := by decide +kernel
theorem dL_acts_171 : decode cL_acts 171 = .ok (.ifCond .ne 17, 3) := by decide +kernel
theorem dL_acts_174 : decode cL_acts 174 = .ok (.aload_n 1, 1) := by decide +kernel
theorem dL_acts_175 : decode cL_acts 175 = .ok (.iload_n 3, 1) := by decide +kernel
theorem dL_acts_176 : decode cL_acts 176 = .ok (.invokevirtual 75, 3) := by decide +kernel
theorem dL_acts_179 : decode cL_acts 179 = .ok (.ifCond .ne 7, 3) := by decide +kernel
theorem dL_acts_182 : decode cL_acts 182 = .ok (.iconst 1, 1) := by decide +kernel
theorem dL_acts_183 : decode cL_acts 183 = .ok (.goto 4, 3) := by decide +kernel
theorem dL_acts_186 : decode cL_acts 186 = .ok (.iconst 0, 1) := by decide +kernel
theorem dL_acts_187 : decode cL_acts 187 = .ok (.ireturn, 1) := by decide +kernel
theorem dL_acts_188 : decode cL_acts 188 = .ok (.iload 6, 2) := by decide +kernel
theorem dL_acts_190 : decode cL_acts 190 = .ok (.ifCond .ne 14, 3) := by decide +kernel
theorem dL_acts_193 : decode cL_acts 193 = .ok (.aload_n 1, 1) := by decide +kernel
theorem dL_acts_194 : decode cL_acts 194 = .ok (.iconst 0, 1) := by decide +kernel
theorem dL_acts_195 : decode cL_acts 195 = .ok (.iload_n 3, 1) := by decide +kernel
theorem dL_acts_196 : decode cL_acts 196 = .ok (.iload 5, 2) := by decide +kernel
theorem dL_acts_198 : decode cL_acts 198 = .ok (.iload 4, 2) := by decide +kernel
theorem dL_acts_200 : decode cL_acts 200 = .ok (.invokestatic 77, 3) := by decide +kernel
theorem dL_acts_203 : decode cL_acts 203 = .ok (.ireturn, 1) := by decide +kernel
theorem dL_acts_204 : decode cL_acts 204 = .ok (.aload_n 0, 1) := by decide +kernel
theorem dL_acts_205 : decode cL_acts 205 = .ok (.getfield 9, 3) := by decide +kernel
theorem dL_acts_208 : decode cL_acts 208 = .ok (.iload_n 3, 1) := by decide +kernel
theorem dL_acts_209 : decode cL_acts 209 = .ok (.aaload, 1) := by decide +kernel
theorem dL_acts_210 : decode cL_acts 210 = .ok (.iload 5, 2) := by decide +kernel
theorem dL_acts_212 : decode cL_acts 212 = .ok (.iaload, 1) := by decide +kernel
theorem dL_acts_213 : decode cL_acts 213 = .ok (.iload 4, 2) := by decide +kernel
theorem dL_acts_215 : decode cL_acts 215 = .ok (.if_icmp .ne 7, 3) := by decide +kernel
theorem dL_acts_218 : decode cL_acts 218 = .ok (.iconst 0, 1) := by decide +kernel
theorem dL_acts_219 : decode cL_acts 219 = .ok (.goto 13, 3) := by decide +kernel
theorem dL_acts_222 : decode cL_acts 222 = .ok (.aload_n 0, 1) := by decide +kernel
theorem dL_acts_223 : decode cL_acts 223 = .ok (.aload_n 0, 1) := by decide +kernel
theorem dL_acts_224 : decode cL_acts 224 = .ok (.getfield 14, 3) := by decide +kernel
theorem dL_acts_227 : decode cL_acts 227 = .ok (.iload_n 3, 1) := by decide +kernel
theorem dL_acts_228 : decode cL_acts 228 = .ok (.iaload, 1) := by decide +kernel
theorem dL_acts_229 : decode cL_acts 229 = .ok (.invokevirtual 81, 3) := by decide +kernel
theorem dL_acts_232 : decode cL_acts 232 = .ok (.istore 7, 2) := by decide +kernel
theorem dL_acts_234 : decode cL_acts 234 = .ok (.aload_n 1, 1) := by decide +kernel
theorem dL_acts_235 : decode cL_acts 235 = .ok (.iload_n 3, 1) := by decide +kernel
theorem dL_acts_236 : decode cL_acts 236 = .ok (.iload 5, 2) := by decide +kernel
theorem dL_acts_238 : decode cL_acts 238 = .ok (.iload 4, 2) := by decide +kernel
theorem dL_acts_240 : decode cL_acts 240 = .ok (.invokevirtual 84, 3) := by decide +kernel
theorem dL_acts_243 : decode cL_acts 243 = .ok (.iload 7, 2) := by decide +kernel
theorem dL_acts_245 : decode cL_acts 245 = .ok (.if_icmp .eq 5, 3) := by decide +kernel
theorem dL_acts_248 : decode cL_acts 248 = .ok (.iconst 0, 1) := by decide +kernel
theorem dL_acts_249 : decode cL_acts 249 = .ok (.ireturn, 1) := by decide +kernel
theorem dL_acts_250 : decode cL_acts 250 = .ok (.aload_n 0, 1) := by decide +kernel
theorem dL_acts_251 : decode cL_acts 251 = .ok (.iload_n 3, 1) := by decide +kernel
theorem dL_acts_252 : decode cL_acts 252 = .ok (.aload_n 0, 1) := by decide +kernel
theorem dL_acts_253 : decode cL_acts 253 = .ok (.getfield 14, 3) := by decide +kernel
theorem dL_acts_256 : decode cL_acts 256 = .ok (.iload_n 3, 1) := by decide +kernel
theorem dL_acts_257 : decode cL_acts 257 = .ok (.iaload, 1) := by decide +kernel
theorem dL_acts_258 : decode cL_acts 258 = .ok (.invokevirtual 87, 3) := by decide +kernel
theorem dL_acts_261 : decode cL_acts 261 = .ok (.istore 8, 2) := by decide +kernel
theorem dL_acts_263 : decode cL_acts 263 = .ok (.aload_n 0, 1) := by decide +kernel
theorem dL_acts_264 : decode cL_acts 264 = .ok (.getfield 9, 3) := by decide +kernel
theorem dL_acts_267 : decode cL_acts 267 = .ok (.iload 8, 2) := by decide +kernel
theorem dL_acts_269 : decode cL_acts 269 = .ok (.aaload, 1) := by decide +kernel
theorem dL_acts_270 : decode cL_acts 270 = .ok (.iload 5, 2) := by decide +kernel
theorem dL_acts_272 : decode cL_acts 272 = .ok (.iload 4, 2) := by decide +kernel
theorem dL_acts_274 : decode cL_acts 274 = .ok (.iastore, 1) := by decide +kernel
theorem dL_acts_275 : decode cL_acts 275 = .ok (.aload_n 1, 1) := by decide +kernel
theorem dL_acts_276 : decode cL_acts 276 = .ok (.iload_n 3, 1) := by decide +kernel
theorem dL_acts_277 : decode cL_acts 277 = .ok (.iload 5, 2) := by decide +kernel
theorem dL_acts_279 : decode cL_acts 279 = .ok (.iload 4, 2) := by decide +kernel
theorem dL_acts_281 : decode cL_acts 281 = .ok (.invokevirtual 55, 3) := by decide +kernel
theorem dL_acts_284 : decode cL_acts 284 = .ok (.iload 8, 2) := by decide +kernel
theorem dL_acts_286 : decode cL_acts 286 = .ok (.if_icmp .ne 18, 3) := by decide +kernel
theorem dL_acts_289 : decode cL_acts 289 = .ok (.aload_n 1, 1) := by decide +kernel
theorem dL_acts_290 : decode cL_acts 290 = .ok (.iload 8, 2) := by decide +kernel
theorem dL_acts_292 : decode cL_acts 292 = .ok (.invokevirtual 90, 3) := by decide +kernel
theorem dL_acts_295 : decode cL_acts 295 = .ok (.iload 7, 2) := by decide +kernel
theorem dL_acts_297 : decode cL_acts 297 = .ok (.if_icmp .ne 7, 3) := by decide +kernel
theorem dL_acts_300 : decode cL_acts 300 = .ok (.iconst 1, 1) := by decide +kernel
theorem dL_acts_301 : decode cL_acts 301 = .ok (.goto 4, 3) := by decide +kernel
theorem dL_acts_304 : decode cL_acts 304 = .ok (.iconst 0, 1) := by decide +kernel
theorem dL_acts_305 : decode cL_acts 305 = .ok (.ireturn, 1) := by decide +kernel
theorem dL_acts_306 : decode cL_acts 306 = .ok (.iload 6, 2) := by decide +kernel
theorem dL_acts_308 : decode cL_acts 308 = .ok (.ifCond .eq 14, 3) := by decide +kernel
theorem dL_acts_311 : decode cL_acts 311 = .ok (.aload_n 0, 1) := by decide +kernel
theorem dL_acts_312 : decode cL_acts 312 = .ok (.getfield 14, 3) := by decide +kernel
theorem dL_acts_315 : decode cL_acts 315 = .ok (.iload_n 3, 1) := by decide +kernel
theorem dL_acts_316 : decode cL_acts 316 = .ok (.iaload, 1) := by decide +kernel
theorem dL_acts_317 : decode cL_acts 317 = .ok (.bipush 64, 2) := by decide +kernel
theorem dL_acts_319 : decode cL_acts 319 = .ok (.if_icmp .ne 13, 3) := by decide +kernel
theorem dL_acts_322 : decode cL_acts 322 = .ok (.aload_n 1, 1) := by decide +kernel
theorem dL_acts_323 : decode cL_acts 323 = .ok (.iconst 1, 1) := by decide +kernel
theorem dL_acts_324 : decode cL_acts 324 = .ok (.iload_n 3, 1) := by decide +kernel
theorem dL_acts_325 : decode cL_acts 325 = .ok (.iconst 0, 1) := by decide +kernel
theorem dL_acts_326 : decode cL_acts 326 = .ok (.iload 4, 2) := by decide +kernel
theorem dL_acts_328 : decode cL_acts 328 = .ok (.invokestatic 77, 3) := by decide +kernel
theorem dL_acts_331 : decode cL_acts 331 = .ok (.ireturn, 1) := by decide +kernel
theorem dL_acts_332 : decode cL_acts 332 = .ok (.aload_n 0, 1) := by decide +kernel
theorem dL_acts_333 : decode cL_acts 333 = .ok (.iload_n 3, 1) := by decide +kernel
theorem dL_acts_334 : decode cL_acts 334 = .ok (.aload_n 0, 1) := by decide +kernel
theorem dL_acts_335 : decode cL_acts 335 = .ok (.getfield 14, 3) := by decide +kernel
theorem dL_acts_338 : decode cL_acts 338 = .ok (.iload_n 3, 1) := by decide +kernel
theorem dL_acts_339 : decode cL_acts 339 = .ok (.iaload, 1) := by decide +kernel
theorem dL_acts_340 : decode cL_acts 340 = .ok (.iconst 1, 1) := by decide +kernel
theorem dL_acts_341 : decode cL_acts 341 = .ok (.iadd, 1) := by decide +kernel
theorem dL_acts_342 : decode cL_acts 342 = .ok (.invokevirtual 87, 3) := by decide +kernel
theorem dL_acts_345 : decode cL_acts 345 = .ok (.istore 7, 2) := by decide +kernel
theorem dL_acts_347 : decode cL_acts 347 = .ok (.aload_n 0, 1) := by decide +kernel
theorem dL_acts_348 : decode cL_acts 348 = .ok (.getfield 9, 3) := by decide +kernel
theorem dL_acts_351 : decode cL_acts 351 = .ok (.iload 7, 2) := by decide +kernel
theorem dL_acts_353 : decode cL_acts 353 = .ok (.aaload, 1) := by decide +kernel
theorem dL_acts_354 : decode cL_acts 354 = .ok (.aload_n 0, 1) := by decide +kernel
theorem dL_acts_355 : decode cL_acts 355 = .ok (.getfield 14, 3) := by decide +kernel
theorem dL_acts_358 : decode cL_acts 358 = .ok (.iload_n 3, 1) := by decide +kernel
theorem dL_acts_359 : decode cL_acts 359 = .ok (.iaload, 1) := by decide +kernel
theorem dL_acts_360 : decode cL_acts 360 = .ok (.iload 4, 2) := by decide +kernel
theorem dL_acts_362 : decode cL_acts 362 = .ok (.iastore, 1) := by decide +kernel
theorem dL_acts_363 : decode cL_acts 363 = .ok (.aload_n 1, 1) := by decide +kernel
theorem dL_acts_364 : decode cL_acts 364 = .ok (.iload_n 3, 1) := by decide +kernel
theorem dL_acts_365 : decode cL_acts 365 = .ok (.invokevirtual 93, 3) := by decide +kernel
theorem dL_acts_368 : decode cL_acts 368 = .ok (.aload_n 0, 1) := by decide +kernel
theorem dL_acts_369 : decode cL_acts 369 = .ok (.aload_n 0, 1) := by decide +kernel
theorem dL_acts_370 : decode cL_acts 370 = .ok (.getfield 14, 3) := by decide +kernel
theorem dL_acts_373 : decode cL_acts 373 = .ok (.iload_n 3, 1) := by decide +kernel
theorem dL_acts_374 : decode cL_acts 374 = .ok (.iaload, 1) := by decide +kernel
theorem dL_acts_375 : decode cL_acts 375 = .ok (.iconst 1, 1) := by decide +kernel
theorem dL_acts_376 : decode cL_acts 376 = .ok (.iadd, 1) := by decide +kernel
theorem dL_acts_377 : decode cL_acts 377 = .ok (.invokevirtual 81, 3) := by decide +kernel
theorem dL_acts_380 : decode cL_acts 380 = .ok (.if_icmp .ne 40, 3) := by decide +kernel
theorem dL_acts_383 : decode cL_acts 383 = .ok (.aload_n 1, 1) := by decide +kernel
theorem dL_acts_384 : decode cL_acts 384 = .ok (.iload_n 3, 1) := by decide +kernel
theorem dL_acts_385 : decode cL_acts 385 = .ok (.iload 4, 2) := by decide +kernel
theorem dL_acts_387 : decode cL_acts 387 = .ok (.invokevirtual 59, 3) := by decide +kernel
theorem dL_acts_390 : decode cL_acts 390 = .ok (.iload 7, 2) := by decide +kernel
theorem dL_acts_392 : decode cL_acts 392 = .ok (.if_icmp .ne 28, 3) := by decide +kernel
theorem dL_acts_395 : decode cL_acts 395 = .ok (.aload_n 1, 1) := by decide +kernel
theorem dL_acts_396 : decode cL_acts 396 = .ok (.iload 7, 2) := by decide +kernel
theorem dL_acts_398 : decode cL_acts 398 = .ok (.invokevirtual 90, 3) := by decide +kernel
theorem dL_acts_401 : decode cL_acts 401 = .ok (.aload_n 0, 1) := by decide +kernel
theorem dL_acts_402 : decode cL_acts 402 = .ok (.aload_n 0, 1) := by decide +kernel
theorem dL_acts_403 : decode cL_acts 403 = .ok (.getfield 14, 3) := by decide +kernel
theorem dL_acts_406 : decode cL_acts 406 = .ok (.iload_n 3, 1) := by decide +kernel
theorem dL_acts_407 : decode cL_acts 407 = .ok (.iaload, 1) := by decide +kernel
theorem dL_acts_408 : decode cL_acts 408 = .ok (.iconst 1, 1) := by decide +kernel
theorem dL_acts_409 : decode cL_acts 409 = .ok (.iadd, 1) := by decide +kernel
theorem dL_acts_410 : decode cL_acts 410 = .ok (.invokevirtual 81, 3) := by decide +kernel
theorem dL_acts_413 : decode cL_acts 413 = .ok (.if_icmp .ne 7, 3) := by decide +kernel
theorem dL_acts_416 : decode cL_acts 416 = .ok (.iconst 1, 1) := by decide +kernel
theorem dL_acts_417 : decode cL_acts 417 = .ok (.goto 4, 3) := by decide +kernel
theorem dL_acts_420 : decode cL_acts 420 = .ok (.iconst 0, 1) := by decide +kernel
theorem dL_acts_421 : decode cL_acts 421 = .ok (.ireturn, 1) := by decide +kernel
theorem dL_acts_422 : decode cL_acts 422 = .ok (.iload 6, 2) := by decide +kernel
theorem dL_acts_424 : decode cL_acts 424 = .ok (.ifCond .ne 12, 3) := by decide +kernel
theorem dL_acts_427 : decode cL_acts 427 = .ok (.aload_n 1, 1) := by decide +kernel
theorem dL_acts_428 : decode cL_acts 428 = .ok (.iconst 2, 1) := by decide +kernel
theorem dL_acts_429 : decode cL_acts 429 = .ok (.iload_n 3, 1) := by decide +kernel
theorem dL_acts_430 : decode cL_acts 430 = .ok (.iconst 0, 1) := by decide +kernel
theorem dL_acts_431 : decode cL_acts 431 = .ok (.iconst 0, 1) := by decide +kernel
theorem dL_acts_432 : decode cL_acts 432 = .ok (.invokestatic 77, 3) := by decide +kernel
theorem dL_acts_435 : decode cL_acts 435 = .ok (.ireturn, 1) := by decide +kernel
theorem dL_acts_436 : decode cL_acts 436 = .ok (.iload_n 2, 1) := by decide +kernel
theorem dL_acts_437 : decode cL_acts 437 = .ok (.bipush 17, 2) := by decide +kernel
theorem dL_acts_439 : decode cL_acts 439 = .ok (.bipush 6, 2) := by decide +kernel
theorem dL_acts_441 : decode cL_acts 441 = .ok (.invokestatic 72, 3) := by decide +kernel
theorem dL_acts_444 : decode cL_acts 444 = .ok (.aload_n 0, 1) := by decide +kernel
theorem dL_acts_445 : decode cL_acts 445 = .ok (.getfield 14, 3) := by decide +kernel
theorem dL_acts_448 : decode cL_acts 448 = .ok (.iload_n 3, 1) := by decide +kernel
theorem dL_acts_449 : decode cL_acts 449 = .ok (.iaload, 1) := by decide +kernel
theorem dL_acts_450 : decode cL_acts 450 = .ok (.iconst 1, 1) := by decide +kernel
theorem dL_acts_451 : decode cL_acts 451 = .ok (.iadd, 1) := by decide +kernel
theorem dL_acts_452 : decode cL_acts 452 = .ok (.irem, 1) := by decide +kernel
theorem dL_acts_453 : decode cL_acts 453 = .ok (.istore 7, 2) := by decide +kernel
theorem dL_acts_455 : decode cL_acts 455 = .ok (.aload_n 0, 1) := by decide +kernel
theorem dL_acts_456 : decode cL_acts 456 = .ok (.iload_n 3, 1) := by decide +kernel
theorem dL_acts_457 : decode cL_acts 457 = .ok (.iload 7, 2) := by decide +kernel
theorem dL_acts_459 : decode cL_acts 459 = .ok (.invokevirtual 87, 3) := by decide +kernel
theorem dL_acts_462 : decode cL_acts 462 = .ok (.istore 8, 2) := by decide +kernel
theorem dL_acts_464 : decode cL_acts 464 = .ok (.aload_n 1, 1) := by decide +kernel
theorem dL_acts_465 : decode cL_acts 465 = .ok (.iload_n 3, 1) := by decide +kernel
theorem dL_acts_466 : decode cL_acts 466 = .ok (.iload 7, 2) := by decide +kernel
theorem dL_acts_468 : decode cL_acts 468 = .ok (.invokevirtual 63, 3) := by decide +kernel
theorem dL_acts_471 : decode cL_acts 471 = .ok (.iload 8, 2) := by decide +kernel
theorem dL_acts_473 : decode cL_acts 473 = .ok (.if_icmp .ne 22, 3) := by decide +kernel
theorem dL_acts_476 : decode cL_acts 476 = .ok (.aload_n 1, 1) := by decide +kernel
theorem dL_acts_477 : decode cL_acts 477 = .ok (.iload 8, 2) := by decide +kernel
theorem dL_acts_479 : decode cL_acts 479 = .ok (.invokevirtual 90, 3) := by decide +kernel
theorem dL_acts_482 : decode cL_acts 482 = .ok (.aload_n 0, 1) := by decide +kernel
theorem dL_acts_483 : decode cL_acts 483 = .ok (.iload 7, 2) := by decide +kernel
theorem dL_acts_485 : decode cL_acts 485 = .ok (.invokevirtual 81, 3) := by decide +kernel
theorem dL_acts_488 : decode cL_acts 488 = .ok (.if_icmp .gt 7, 3) := by decide +kernel
theorem dL_acts_491 : decode cL_acts 491 = .ok (.iconst 1, 1) := by decide +kernel
theorem dL_acts_492 : decode cL_acts 492 = .ok (.goto 4, 3) := by decide +kernel
theorem dL_acts_495 : decode cL_acts 495 = .ok (.iconst 0, 1) := by decide +kernel
theorem dL_acts_496 : decode cL_acts 496 = .ok (.ireturn, 1) := by decide +kernel
theorem dL_acts_497 : decode cL_acts 497 = .ok (.aload_n 0, 1) := by decide +kernel
theorem dL_acts_498 : decode cL_acts 498 = .ok (.getfield 21, 3) := by decide +kernel
theorem dL_acts_501 : decode cL_acts 501 = .ok (.iload_n 3, 1) := by decide +kernel
theorem dL_acts_502 : decode cL_acts 502 = .ok (.baload, 1) := by decide +kernel
theorem dL_acts_503 : decode cL_acts 503 = .ok (.ifCond .ne 11, 3) := by decide +kernel
theorem dL_acts_506 : decode cL_acts 506 = .ok (.aload_n 0, 1) := by decide +kernel
theorem dL_acts_507 : decode cL_acts 507 = .ok (.getfield 31, 3) := by decide +kernel
theorem dL_acts_510 : decode cL_acts 510 = .ok (.iconst 4, 1) := by decide +kernel
theorem dL_acts_511 : decode cL_acts 511 = .ok (.if_icmp .ge 23, 3) := by decide +kernel
theorem dL_acts_514 : decode cL_acts 514 = .ok (.aload_n 1, 1) := by decide +kernel
theorem dL_acts_515 : decode cL_acts 515 = .ok (.iload_n 3, 1) := by decide +kernel
theorem dL_acts_516 : decode cL_acts 516 = .ok (.invokevirtual 96, 3) := by decide +kernel
theorem dL_acts_519 : decode cL_acts 519 = .ok (.aload_n 0, 1) := by decide +kernel
theorem dL_acts_520 : decode cL_acts 520 = .ok (.getfield 21, 3) := by decide +kernel
theorem dL_acts_523 : decode cL_acts 523 = .ok (.iload_n 3, 1) := by decide +kernel
theorem dL_acts_524 : decode cL_acts 524 = .ok (.baload, 1) := by decide +kernel
theorem dL_acts_525 : decode cL_acts 525 = .ok (.if_icmp .ne 7, 3) := by decide +kernel
theorem dL_acts_528 : decode cL_acts 528 = .ok (.iconst 1, 1) := by decide +kernel
theorem dL_acts_529 : decode cL_acts 529 = .ok (.goto 4, 3) := by decide +kernel
theorem dL_acts_532 : decode cL_acts 532 = .ok (.iconst 0, 1) := by decide +kernel
theorem dL_acts_533 : decode cL_acts 533 = .ok (.ireturn, 1) := by decide +kernel
theorem dL_acts_534 : decode cL_acts 534 = .ok (.aload_n 1, 1) := by decide +kernel
theorem dL_acts_535 : decode cL_acts 535 = .ok (.iload_n 3, 1) := by decide +kernel
theorem dL_acts_536 : decode cL_acts 536 = .ok (.invokevirtual 99, 3) := by decide +kernel
theorem dL_acts_539 : decode cL_acts 539 = .ok (.istore 7, 2) := by decide +kernel
theorem dL_acts_541 : decode cL_acts 541 = .ok (.aload_n 1, 1) := by decide +kernel
theorem dL_acts_542 : decode cL_acts 542 = .ok (.invokevirtual 102, 3) := by decide +kernel
theorem dL_acts_545 : decode cL_acts 545 = .ok (.istore 8, 2) := by decide +kernel
theorem dL_acts_547 : decode cL_acts 547 = .ok (.aload_n 0, 1) := by decide +kernel
theorem dL_acts_548 : decode cL_acts 548 = .ok (.getfield 21, 3) := by decide +kernel
theorem dL_acts_551 : decode cL_acts 551 = .ok (.iload_n 3, 1) := by decide +kernel
theorem dL_acts_552 : decode cL_acts 552 = .ok (.iconst 1, 1) := by decide +kernel
theorem dL_acts_553 : decode cL_acts 553 = .ok (.bastore, 1) := by decide +kernel
theorem dL_acts_554 : decode cL_acts 554 = .ok (.aload_n 1, 1) := by decide +kernel
theorem dL_acts_555 : decode cL_acts 555 = .ok (.iload_n 3, 1) := by decide +kernel
theorem dL_acts_556 : decode cL_acts 556 = .ok (.invokevirtual 66, 3) := by decide +kernel
theorem dL_acts_559 : decode cL_acts 559 = .ok (.iload 8, 2) := by decide +kernel
theorem dL_acts_561 : decode cL_acts 561 = .ok (.iload 7, 2) := by decide +kernel
theorem dL_acts_563 : decode cL_acts 563 = .ok (.iadd, 1) := by decide +kernel
theorem dL_acts_564 : decode cL_acts 564 = .ok (.if_icmp .ne 7, 3) := by decide +kernel
theorem dL_acts_567 : decode cL_acts 567 = .ok (.iconst 1, 1) := by decide +kernel
theorem dL_acts_568 : decode cL_acts 568 = .ok (.goto 4, 3) := by decide +kernel
theorem dL_acts_571 : decode cL_acts 571 = .ok (.iconst 0, 1) := by decide +kernel
theorem dL_acts_572 : decode cL_acts 572 = .ok (.ireturn, 1) := by decide +kernel
theorem dL_acts_573 : decode cL_acts 573 = .ok (.aload_n 1, 1) := by decide +kernel
theorem dL_acts_574 : decode cL_acts 574 = .ok (.invokevirtual 102, 3) := by decide +kernel
theorem dL_acts_577 : decode cL_acts 577 = .ok (.istore 7, 2) := by decide +kernel
theorem dL_acts_579 : decode cL_acts 579 = .ok (.aload_n 1, 1) := by decide +kernel
theorem dL_acts_580 : decode cL_acts 580 = .ok (.invokevirtual 105, 3) := by decide +kernel
theorem dL_acts_583 : decode cL_acts 583 = .ok (.istore 8, 2) := by decide +kernel
theorem dL_acts_585 : decode cL_acts 585 = .ok (.aload_n 1, 1) := by decide +kernel
theorem dL_acts_586 : decode cL_acts 586 = .ok (.invokevirtual 108, 3) := by decide +kernel
theorem dL_acts_589 : decode cL_acts 589 = .ok (.iload 7, 2) := by decide +kernel
theorem dL_acts_591 : decode cL_acts 591 = .ok (.if_icmp .ne 26, 3) := by decide +kernel
theorem dL_acts_594 : decode cL_acts 594 = .ok (.aload_n 1, 1) := by decide +kernel
theorem dL_acts_595 : decode cL_acts 595 = .ok (.invokevirtual 105, 3) := by decide +kernel
theorem dL_acts_598 : decode cL_acts 598 = .ok (.iload 8, 2) := by decide +kernel
theorem dL_acts_600 : decode cL_acts 600 = .ok (.iload 7, 2) := by decide +kernel
theorem dL_acts_602 : decode cL_acts 602 = .ok (.isub, 1) := by decide +kernel
theorem dL_acts_603 : decode cL_acts 603 = .ok (.if_icmp .ne 14, 3) := by decide +kernel
theorem dL_acts_606 : decode cL_acts 606 = .ok (.aload_n 1, 1) := by decide +kernel
theorem dL_acts_607 : decode cL_acts 607 = .ok (.invokevirtual 102, 3) := by decide +kernel
theorem dL_acts_610 : decode cL_acts 610 = .ok (.ifCond .ne 7, 3) := by decide +kernel
theorem dL_acts_613 : decode cL_acts 613 = .ok (.iconst 1, 1) := by decide +kernel
theorem dL_acts_614 : decode cL_acts 614 = .ok (.goto 4, 3) := by decide +kernel
theorem dL_acts_617 : decode cL_acts 617 = .ok (.iconst 0, 1) := by decide +kernel
theorem dL_acts_618 : decode cL_acts 618 = .ok (.ireturn, 1) := by decide +kernel
theorem dL_acts_619 : decode cL_acts 619 = .ok (.aload_n 1, 1) := by decide +kernel
theorem dL_acts_620 : decode cL_acts 620 = .ok (.iload_n 3, 1) := by decide +kernel
theorem dL_acts_621 : decode cL_acts 621 = .ok (.invokevirtual 96, 3) := by decide +kernel
theorem dL_acts_624 : decode cL_acts 624 = .ok (.aload_n 0, 1) := by decide +kernel
theorem dL_acts_625 : decode cL_acts 625 = .ok (.getfield 21, 3) := by decide +kernel
theorem dL_acts_628 : decode cL_acts 628 = .ok (.iload_n 3, 1) := by decide +kernel
theorem dL_acts_629 : decode cL_acts 629 = .ok (.baload, 1) := by decide +kernel
theorem dL_acts_630 : decode cL_acts 630 = .ok (.if_icmp .ne 7, 3) := by decide +kernel
theorem dL_acts_633 : decode cL_acts 633 = .ok (.iconst 1, 1) := by decide +kernel
theorem dL_acts_634 : decode cL_acts 634 = .ok (.goto 4, 3) := by decide +kernel
theorem dL_acts_637 : decode cL_acts 637 = .ok (.iconst 0, 1) := by decide +kernel
theorem dL_acts_638 : decode cL_acts 638 = .ok (.ireturn, 1) := by decide +kernel
theorem dL_isTree_0 : decode cL_isTree 0 = .ok (.aload_n 1, 1) := by decide +kernel
theorem dL_isTree_1 : decode cL_isTree 1 = .ok (.iload_n 3, 1) := by decide +kernel
theorem dL_isTree_2 : decode cL_isTree 2 = .ok (.invokevirtual 111, 3) := by decide +kernel
theorem dL_isTree_5 : decode cL_isTree 5 = .ok (.istore 5, 2) := by decide +kernel
theorem dL_isTree_7 : decode cL_isTree 7 = .ok (.aload_n 1, 1) := by decide +kernel
theorem dL_isTree_8 : decode cL_isTree 8 = .ok (.iload_n 3, 1) := by decide +kernel
theorem dL_isTree_9 : decode cL_isTree 9 = .ok (.invokevirtual 114, 3) := by decide +kernel
theorem dL_isTree_12 : decode cL_isTree 12 = .ok (.iload 4, 2) := by decide +kernel
theorem dL_isTree_14 : decode cL_isTree 14 = .ok (.iconst 1, 1) := by decide +kernel
theorem dL_isTree_15 : decode cL_isTree 15 = .ok (.if_icmp .ne 7, 3) := by decide +kernel
theorem dL_isTree_18 : decode cL_isTree 18 = .ok (.iconst 1, 1) := by decide +kernel
theorem dL_isTree_19 : decode cL_isTree 19 = .ok (.goto 4, 3) := by decide +kernel
theorem dL_isTree_22 : decode cL_isTree 22 = .ok (.iconst 0, 1) := by decide +kernel
theorem dL_isTree_23 : decode cL_isTree 23 = .ok (.if_icmp .ne 24, 3) := by decide +kernel
theorem dL_isTree_26 : decode cL_isTree 26 = .ok (.iload 5, 2) := by decide +kernel
theorem dL_isTree_28 : decode cL_isTree 28 = .ok (.iconst 1, 1) := by decide +kernel
theorem dL_isTree_29 : decode cL_isTree 29 = .ok (.if_icmp .lt 18, 3) := by decide +kernel
theorem dL_isTree_32 : decode cL_isTree 32 = .ok (.iload 5, 2) := by decide +kernel
theorem dL_isTree_34 : decode cL_isTree 34 = .ok (.iconst 4, 1) := by decide +kernel
theorem dL_isTree_35 : decode cL_isTree 35 = .ok (.if_icmp .gt 12, 3) := by decide +kernel
theorem dL_isTree_38 : decode cL_isTree 38 = .ok (.aload_n 1, 1) := by decide +kernel
theorem dL_isTree_39 : decode cL_isTree 39 = .ok (.iload_n 3, 1) := by decide +kernel
theorem dL_isTree_40 : decode cL_isTree 40 = .ok (.invokevirtual 117, 3) := by decide +kernel
theorem dL_isTree_43 : decode cL_isTree 43 = .ok (.iconst 1, 1) := by decide +kernel
theorem dL_isTree_44 : decode cL_isTree 44 = .ok (.if_icmp .ge 5, 3) := by decide +kernel
theorem dL_isTree_47 : decode cL_isTree 47 = .ok (.iconst 0, 1) := by decide +kernel
theorem dL_isTree_48 : decode cL_isTree 48 = .ok (.ireturn, 1) := by decide +kernel
theorem dL_isTree_49 : decode cL_isTree 49 = .ok (.iconst 0, 1) := by decide +kernel
theorem dL_isTree_50 : decode cL_isTree 50 = .ok (.istore 6, 2) := by decide +kernel
theorem dL_isTree_52 : decode cL_isTree 52 = .ok (.iload 6, 2) := by decide +kernel
theorem dL_isTree_54 : decode cL_isTree 54 = .ok (.iconst 4, 1) := by decide +kernel
theorem dL_isTree_55 : decode cL_isTree 55 = .ok (.if_icmp .ge 88, 3) := by decide +kernel
theorem dL_isTree_58 : decode cL_isTree 58 = .ok (.iload 4, 2) := by decide +kernel
theorem dL_isTree_60 : decode cL_isTree 60 = .ok (.iconst 1, 1) := by decide +kernel
theorem dL_isTree_61 : decode cL_isTree 61 = .ok (.if_icmp .ne 31, 3) := by decide +kernel
theorem dL_isTree_64 : decode cL_isTree 64 = .ok (.iload 6, 2) := by decide +kernel
theorem dL_isTree_66 : decode cL_isTree 66 = .ok (.iload 5, 2) := by decide +kernel
theorem dL_isTree_68 : decode cL_isTree 68 = .ok (.if_icmp .ge 18, 3) := by decide +kernel
theorem dL_isTree_71 : decode cL_isTree 71 = .ok (.aload_n 1, 1) := by decide +kernel
theorem dL_isTree_72 : decode cL_isTree 72 = .ok (.iload_n 2, 1) := by decide +kernel
theorem dL_isTree_73 : decode cL_isTree 73 = .ok (.aload_n 0, 1) := by decide +kernel
theorem dL_isTree_74 : decode cL_isTree 74 = .ok (.getfield 120, 3) := by decide +kernel
theorem dL_isTree_77 : decode cL_isTree 77 = .ok (.iload 6, 2) := by decide +kernel
theorem dL_isTree_79 : decode cL_isTree 79 = .ok (.iadd, 1) := by decide +kernel
theorem dL_isTree_80 : decode cL_isTree 80 = .ok (.invokevirtual 123, 3) := by decide +kernel
theorem dL_isTree_83 : decode cL_isTree 83 = .ok (.goto 16, 3) := by decide +kernel
theorem dL_isTree_86 : decode cL_isTree 86 = .ok (.sipush (-2000), 3) := by decide +kernel
theorem dL_isTree_89 : decode cL_isTree 89 = .ok (.goto 10, 3) := by decide +kernel
theorem dL_isTree_92 : decode cL_isTree 92 = .ok (.aload_n 1, 1) := by decide +kernel
theorem dL_isTree_93 : decode cL_isTree 93 = .ok (.iload_n 3, 1) := by decide +kernel
theorem dL_isTree_94 : decode cL_isTree 94 = .ok (.iload 6, 2) := by decide +kernel
theorem dL_isTree_96 : decode cL_isTree 96 = .ok (.invokevirtual 126, 3) := by decide +kernel
theorem dL_isTree_99 : decode cL_isTree 99 = .ok (.istore 7, 2) := by decide +kernel
theorem dL_isTree_101 : decode cL_isTree 101 = .ok (.aload_n 0, 1) := by decide +kernel
theorem dL_isTree_102 : decode cL_isTree 102 = .ok (.getfield 28, 3) := by decide +kernel
theorem dL_isTree_105 : decode cL_isTree 105 = .ok (.iload_n 3, 1) := by decide +kernel
theorem dL_isTree_106 : decode cL_isTree 106 = .ok (.baload, 1) := by decide +kernel
theorem dL_isTree_107 : decode cL_isTree 107 = .ok (.ifCond .eq 19, 3) := by decide +kernel
theorem dL_isTree_110 : decode cL_isTree 110 = .ok (.aload_n 0, 1) := by decide +kernel
theorem dL_isTree_111 : decode cL_isTree 111 = .ok (.getfield 25, 3) := by decide +kernel
theorem dL_isTree_114 : decode cL_isTree 114 = .ok (.iload_n 3, 1) := by decide +kernel
theorem dL_isTree_115 : decode cL_isTree 115 = .ok (.aaload, 1) := by decide +kernel
theorem dL_isTree_116 : decode cL_isTree 116 = .ok (.iload 6, 2) := by decide +kernel
theorem dL_isTree_118 : decode cL_isTree 118 = .ok (.iaload, 1) := by decide +kernel
theorem dL_isTree_119 : decode cL_isTree 119 = .ok (.iload 7, 2) := by decide +kernel
theorem dL_isTree_121 : decode cL_isTree 121 = .ok (.if_icmp .eq 5, 3) := by decide +kernel
theorem dL_isTree_124 : decode cL_isTree 124 = .ok (.iconst 0, 1) := by decide +kernel
theorem dL_isTree_125 : decode cL_isTree 125 = .ok (.ireturn, 1) := by decide +kernel
theorem dL_isTree_126 : decode cL_isTree 126 = .ok (.aload_n 0, 1) := by decide +kernel
theorem dL_isTree_127 : decode cL_isTree 127 = .ok (.getfield 25, 3) := by decide +kernel
theorem dL_isTree_130 : decode cL_isTree 130 = .ok (.iload_n 3, 1) := by decide +kernel
theorem dL_isTree_131 : decode cL_isTree 131 = .ok (.aaload, 1) := by decide +kernel
theorem dL_isTree_132 : decode cL_isTree 132 = .ok (.iload 6, 2) := by decide +kernel
theorem dL_isTree_134 : decode cL_isTree 134 = .ok (.iload 7, 2) := by decide +kernel
theorem dL_isTree_136 : decode cL_isTree 136 = .ok (.iastore, 1) := by decide +kernel
theorem dL_isTree_137 : decode cL_isTree 137 = .ok (.iinc 6 1, 3) := by decide +kernel
theorem dL_isTree_140 : decode cL_isTree 140 = .ok (.goto (-88), 3) := by decide +kernel
theorem dL_isTree_143 : decode cL_isTree 143 = .ok (.aload_n 0, 1) := by decide +kernel
theorem dL_isTree_144 : decode cL_isTree 144 = .ok (.getfield 28, 3) := by decide +kernel
theorem dL_isTree_147 : decode cL_isTree 147 = .ok (.iload_n 3, 1) := by decide +kernel
theorem dL_isTree_148 : decode cL_isTree 148 = .ok (.iconst 1, 1) := by decide +kernel
theorem dL_isTree_149 : decode cL_isTree 149 = .ok (.bastore, 1) := by decide +kernel
theorem dL_isTree_150 : decode cL_isTree 150 = .ok (.iload 4, 2) := by decide +kernel
theorem dL_isTree_152 : decode cL_isTree 152 = .ok (.iconst 1, 1) := by decide +kernel
theorem dL_isTree_153 : decode cL_isTree 153 = .ok (.if_icmp .ne 93, 3) := by decide +kernel
theorem dL_isTree_156 : decode cL_isTree 156 = .ok (.iconst 0, 1) := by decide +kernel
theorem dL_isTree_157 : decode cL_isTree 157 = .ok (.istore 6, 2) := by decide +kernel
theorem dL_isTree_159 : decode cL_isTree 159 = .ok (.iload 6, 2) := by decide +kernel
theorem dL_isTree_161 : decode cL_isTree 161 = .ok (.iload 5, 2) := by decide +kernel
theorem dL_isTree_163 : decode cL_isTree 163 = .ok (.if_icmp .ge 56, 3) := by decide +kernel
theorem dL_isTree_166 : decode cL_isTree 166 = .ok (.aload_n 1, 1) := by decide +kernel
theorem dL_isTree_167 : decode cL_isTree 167 = .ok (.iload_n 2, 1) := by decide +kernel
theorem dL_isTree_168 : decode cL_isTree 168 = .ok (.aload_n 0, 1) := by decide +kernel
theorem dL_isTree_169 : decode cL_isTree 169 = .ok (.getfield 120, 3) := by decide +kernel
theorem dL_isTree_172 : decode cL_isTree 172 = .ok (.iload 6, 2) := by decide +kernel
theorem dL_isTree_174 : decode cL_isTree 174 = .ok (.iadd, 1) := by decide +kernel
theorem dL_isTree_175 : decode cL_isTree 175 = .ok (.invokevirtual 129, 3) := by decide +kernel
theorem dL_isTree_178 : decode cL_isTree 178 = .ok (.iload_n 3, 1) := by decide +kernel
theorem dL_isTree_179 : decode cL_isTree 179 = .ok (.if_icmp .ne 32, 3) := by decide +kernel
theorem dL_isTree_182 : decode cL_isTree 182 = .ok (.aload_n 1, 1) := by decide +kernel
theorem dL_isTree_183 : decode cL_isTree 183 = .ok (.iload_n 2, 1) := by decide +kernel
theorem dL_isTree_184 : decode cL_isTree 184 = .ok (.aload_n 0, 1) := by decide +kernel
theorem dL_isTree_185 : decode cL_isTree 185 = .ok (.getfield 120, 3) := by decide +kernel
theorem dL_isTree_188 : decode cL_isTree 188 = .ok (.iload 6, 2) := by decide +kernel
theorem dL_isTree_190 : decode cL_isTree 190 = .ok (.iadd, 1) := by decide +kernel
theorem dL_isTree_191 : decode cL_isTree 191 = .ok (.invokevirtual 123, 3) := by decide +kernel
theorem dL_isTree_194 : decode cL_isTree 194 = .ok (.aload_n 0, 1) := by decide +kernel
theorem dL_isTree_195 : decode cL_isTree 195 = .ok (.getfield 9, 3) := by decide +kernel
theorem dL_isTree_198 : decode cL_isTree 198 = .ok (.iload_n 2, 1) := by decide +kernel
theorem dL_isTree_199 : decode cL_isTree 199 = .ok (.aaload, 1) := by decide +kernel
theorem dL_isTree_200 : decode cL_isTree 200 = .ok (.aload_n 0, 1) := by decide +kernel
theorem dL_isTree_201 : decode cL_isTree 201 = .ok (.getfield 120, 3) := by decide +kernel
theorem dL_isTree_204 : decode cL_isTree 204 = .ok (.iload 6, 2) := by decide +kernel
theorem dL_isTree_206 : decode cL_isTree 206 = .ok (.iadd, 1) := by decide +kernel
theorem dL_isTree_207 : decode cL_isTree 207 = .ok (.iaload, 1) := by decide +kernel
theorem dL_isTree_208 : decode cL_isTree 208 = .ok (.if_icmp .eq 5, 3) := by decide +kernel
theorem dL_isTree_211 : decode cL_isTree 211 = .ok (.iconst 0, 1) := by decide +kernel
theorem dL_isTree_212 : decode cL_isTree 212 = .ok (.ireturn, 1) := by decide +kernel
theorem dL_isTree_213 : decode cL_isTree 213 = .ok (.iinc 6 1, 3) := by decide +kernel
theorem dL_isTree_216 : decode cL_isTree 216 = .ok (.goto (-57), 3) := by decide +kernel
theorem dL_isTree_219 : decode cL_isTree 219 = .ok (.aload_n 0, 1) := by decide +kernel
theorem dL_isTree_220 : decode cL_isTree 220 = .ok (.dup, 1) := by decide +kernel
theorem dL_isTree_221 : decode cL_isTree 221 = .ok (.getfield 120, 3) := by decide +kernel
theorem dL_isTree_224 : decode cL_isTree 224 = .ok (.iload 5, 2) := by decide +kernel
theorem dL_isTree_226 : decode cL_isTree 226 = .ok (.iadd, 1) := by decide +kernel
theorem dL_isTree_227 : decode cL_isTree 227 = .ok (.putfield 120, 3) := by decide +kernel
theorem dL_isTree_230 : decode cL_isTree 230 = .ok (.aload_n 1, 1) := by decide +kernel
theorem dL_isTree_231 : decode cL_isTree 231 = .ok (.iload_n 3, 1) := by decide +kernel
theorem dL_isTree_232 : decode cL_isTree 232 = .ok (.iconst 0, 1) := by decide +kernel
theorem dL_isTree_233 : decode cL_isTree 233 = .ok (.invokevirtual 126, 3) := by decide +kernel
theorem dL_isTree_236 : decode cL_isTree 236 = .ok (.iconst (-1), 1) := by decide +kernel
theorem dL_isTree_237 : decode cL_isTree 237 = .ok (.if_icmp .ne 7, 3) := by decide +kernel
theorem dL_isTree_240 : decode cL_isTree 240 = .ok (.iconst 1, 1) := by decide +kernel
theorem dL_isTree_241 : decode cL_isTree 241 = .ok (.goto 4, 3) := by decide +kernel
theorem dL_isTree_244 : decode cL_isTree 244 = .ok (.iconst 0, 1) := by decide +kernel
theorem dL_isTree_245 : decode cL_isTree 245 = .ok (.ireturn, 1) := by decide +kernel
theorem dL_isTree_246 : decode cL_isTree 246 = .ok (.iconst 0, 1) := by decide +kernel
theorem dL_isTree_247 : decode cL_isTree 247 = .ok (.istore 6, 2) := by decide +kernel
theorem dL_isTree_249 : decode cL_isTree 249 = .ok (.iload 6, 2) := by decide +kernel
theorem dL_isTree_251 : decode cL_isTree 251 = .ok (.iload 5, 2) := by decide +kernel
theorem dL_isTree_253 : decode cL_isTree 253 = .ok (.if_icmp .ge 31, 3) := by decide +kernel
theorem dL_isTree_256 : decode cL_isTree 256 = .ok (.aload_n 0, 1) := by decide +kernel
theorem dL_isTree_257 : decode cL_isTree 257 = .ok (.aload_n 1, 1) := by decide +kernel
theorem dL_isTree_258 : decode cL_isTree 258 = .ok (.iload_n 2, 1) := by decide +kernel
theorem dL_isTree_259 : decode cL_isTree 259 = .ok (.aload_n 1, 1) := by decide +kernel
theorem dL_isTree_260 : decode cL_isTree 260 = .ok (.iload_n 3, 1) := by decide +kernel
theorem dL_isTree_261 : decode cL_isTree 261 = .ok (.iload 6, 2) := by decide +kernel
theorem dL_isTree_263 : decode cL_isTree 263 = .ok (.invokevirtual 126, 3) := by decide +kernel
theorem dL_isTree_266 : decode cL_isTree 266 = .ok (.iload 4, 2) := by decide +kernel
theorem dL_isTree_268 : decode cL_isTree 268 = .ok (.iconst 1, 1) := by decide +kernel
theorem dL_isTree_269 : decode cL_isTree 269 = .ok (.isub, 1) := by decide +kernel
theorem dL_isTree_270 : decode cL_isTree 270 = .ok (.invokevirtual 132, 3) := by decide +kernel
theorem dL_isTree_273 : decode cL_isTree 273 = .ok (.ifCond .ne 5, 3) := by decide +kernel
theorem dL_isTree_276 : decode cL_isTree 276 = .ok (.iconst 0, 1) := by decide +kernel
theorem dL_isTree_277 : decode cL_isTree 277 = .ok (.ireturn, 1) := by decide +kernel
theorem dL_isTree_278 : decode cL_isTree 278 = .ok (.iinc 6 1, 3) := by decide +kernel
theorem dL_isTree_281 : decode cL_isTree 281 = .ok (.goto (-32), 3) := by decide +kernel
theorem dL_isTree_284 : decode cL_isTree 284 = .ok (.iconst 1, 1) := by decide +kernel
theorem dL_isTree_285 : decode cL_isTree 285 = .ok (.ireturn, 1) := by decide +kernel
theorem dL_isLike_0 : decode cL_isLike 0 = .ok (.aload_n 1, 1) := by decide +kernel
theorem dL_isLike_1 : decode cL_isLike 1 = .ok (.invokevirtual 136, 3) := by decide +kernel
theorem dL_isLike_4 : decode cL_isLike 4 = .ok (.aload_n 0, 1) := by decide +kernel
theorem dL_isLike_5 : decode cL_isLike 5 = .ok (.getfield 31, 3) := by decide +kernel
theorem dL_isLike_8 : decode cL_isLike 8 = .ok (.if_icmp .eq 5, 3) := by decide +kernel
theorem dL_isLike_11 : decode cL_isLike 11 = .ok (.iconst 0, 1) := by decide +kernel
theorem dL_isLike_12 : decode cL_isLike 12 = .ok (.ireturn, 1) := by decide +kernel
theorem dL_isLike_13 : decode cL_isLike 13 = .ok (.iconst 0, 1) := by decide +kernel
theorem dL_isLike_14 : decode cL_isLike 14 = .ok (.istore_n 2, 1) := by decide +kernel
theorem dL_isLike_15 : decode cL_isLike 15 = .ok (.iload_n 2, 1) := by decide +kernel
theorem dL_isLike_16 : decode cL_isLike 16 = .ok (.aload_n 0, 1) := by decide +kernel
theorem dL_isLike_17 : decode cL_isLike 17 = .ok (.getfield 31, 3) := by decide +kernel
theorem dL_isLike_20 : decode cL_isLike 20 = .ok (.if_icmp .ge 211, 3) := by decide +kernel
theorem dL_isLike_23 : decode cL_isLike 23 = .ok (.aload_n 1, 1) := by decide +kernel
theorem dL_isLike_24 : decode cL_isLike 24 = .ok (.iload_n 2, 1) := by decide +kernel
theorem dL_isLike_25 : decode cL_isLike 25 = .ok (.invokevirtual 96, 3) := by decide +kernel
theorem dL_isLike_28 : decode cL_isLike 28 = .ok (.aload_n 0, 1) := by decide +kernel
theorem dL_isLike_29 : decode cL_isLike 29 = .ok (.getfield 21, 3) := by decide +kernel
theorem dL_isLike_32 : decode cL_isLike 32 = .ok (.iload_n 2, 1) := by decide +kernel
theorem dL_isLike_33 : decode cL_isLike 33 = .ok (.baload, 1) := by decide +kernel
theorem dL_isLike_34 : decode cL_isLike 34 = .ok (.if_icmp .ne 17, 3) := by decide +kernel
theorem dL_isLike_37 : decode cL_isLike 37 = .ok (.aload_n 1, 1) := by decide +kernel
theorem dL_isLike_38 : decode cL_isLike 38 = .ok (.iload_n 2, 1) := by decide +kernel
theorem dL_isLike_39 : decode cL_isLike 39 = .ok (.invokevirtual 139, 3) := by decide +kernel
theorem dL_isLike_42 : decode cL_isLike 42 = .ok (.aload_n 0, 1) := by decide +kernel
theorem dL_isLike_43 : decode cL_isLike 43 = .ok (.getfield 18, 3) := by decide +kernel
theorem dL_isLike_46 : decode cL_isLike 46 = .ok (.iload_n 2, 1) := by decide +kernel
theorem dL_isLike_47 : decode cL_isLike 47 = .ok (.iaload, 1) := by decide +kernel
theorem dL_isLike_48 : decode cL_isLike 48 = .ok (.if_icmp .eq 5, 3) := by decide +kernel
theorem dL_isLike_51 : decode cL_isLike 51 = .ok (.iconst 0, 1) := by decide +kernel
theorem dL_isLike_52 : decode cL_isLike 52 = .ok (.ireturn, 1) := by decide +kernel
theorem dL_isLike_53 : decode cL_isLike 53 = .ok (.aload_n 0, 1) := by decide +kernel
theorem dL_isLike_54 : decode cL_isLike 54 = .ok (.getfield 21, 3) := by decide +kernel
theorem dL_isLike_57 : decode cL_isLike 57 = .ok (.iload_n 2, 1) := by decide +kernel
theorem dL_isLike_58 : decode cL_isLike 58 = .ok (.baload, 1) := by decide +kernel
theorem dL_isLike_59 : decode cL_isLike 59 = .ok (.ifCond .eq 6, 3) := by decide +kernel
theorem dL_isLike_62 : decode cL_isLike 62 = .ok (.goto 163, 3) := by decide +kernel
theorem dL_isLike_65 : decode cL_isLike 65 = .ok (.iconst 0, 1) := by decide +kernel
theorem dL_isLike_66 : decode cL_isLike 66 = .ok (.istore_n 3, 1) := by decide +kernel
theorem dL_isLike_67 : decode cL_isLike 67 = .ok (.iconst 0, 1) := by decide +kernel
theorem dL_isLike_68 : decode cL_isLike 68 = .ok (.istore 4, 2) := by decide +kernel
theorem dL_isLike_70 : decode cL_isLike 70 = .ok (.iload 4, 2) := by decide +kernel
theorem dL_isLike_72 : decode cL_isLike 72 = .ok (.aload_n 0, 1) := by decide +kernel
theorem dL_isLike_73 : decode cL_isLike 73 = .ok (.getfield 14, 3) := by decide +kernel
theorem dL_isLike_76 : decode cL_isLike 76 = .ok (.iload_n 2, 1) := by decide +kernel
theorem dL_isLike_77 : decode cL_isLike 77 = .ok (.iaload, 1) := by decide +kernel
theorem dL_isLike_78 : decode cL_isLike 78 = .ok (.if_icmp .ge 21, 3) := by decide +kernel
theorem dL_isLike_81 : decode cL_isLike 81 = .ok (.iload_n 3, 1) := by decide +kernel
theorem dL_isLike_82 : decode cL_isLike 82 = .ok (.aload_n 0, 1) := by decide +kernel
theorem dL_isLike_83 : decode cL_isLike 83 = .ok (.getfield 9, 3) := by decide +kernel
theorem dL_isLike_86 : decode cL_isLike 86 = .ok (.iload_n 2, 1) := by decide +kernel
theorem dL_isLike_87 : decode cL_isLike 87 = .ok (.aaload, 1) := by decide +kernel
theorem dL_isLike_88 : decode cL_isLike 88 = .ok (.iload 4, 2) := by decide +kernel
theorem dL_isLike_90 : decode cL_isLike 90 = .ok (.iaload, 1) := by decide +kernel
theorem dL_isLike_91 : decode cL_isLike 91 = .ok (.iadd, 1) := by decide +kernel
theorem dL_isLike_92 : decode cL_isLike 92 = .ok (.istore_n 3, 1) := by decide +kernel
theorem dL_isLike_93 : decode cL_isLike 93 = .ok (.iinc 4 1, 3) := by decide +kernel
theorem dL_isLike_96 : decode cL_isLike 96 = .ok (.goto (-26), 3) := by decide +kernel
theorem dL_isLike_99 : decode cL_isLike 99 = .ok (.aload_n 1, 1) := by decide +kernel
theorem dL_isLike_100 : decode cL_isLike 100 = .ok (.iload_n 2, 1) := by decide +kernel
theorem dL_isLike_101 : decode cL_isLike 101 = .ok (.invokevirtual 75, 3) := by decide +kernel
theorem dL_isLike_104 : decode cL_isLike 104 = .ok (.aload_n 0, 1) := by decide +kernel
theorem dL_isLike_105 : decode cL_isLike 105 = .ok (.getfield 14, 3) := by decide +kernel
theorem dL_isLike_108 : decode cL_isLike 108 = .ok (.iload_n 2, 1) := by decide +kernel
theorem dL_isLike_109 : decode cL_isLike 109 = .ok (.iaload, 1) := by decide +kernel
theorem dL_isLike_110 : decode cL_isLike 110 = .ok (.if_icmp .ne 60, 3) := by decide +kernel
theorem dL_isLike_113 : decode cL_isLike 113 = .ok (.aload_n 1, 1) := by decide +kernel
theorem dL_isLike_114 : decode cL_isLike 114 = .ok (.iload_n 2, 1) := by decide +kernel
theorem dL_isLike_115 : decode cL_isLike 115 = .ok (.invokevirtual 142, 3) := by decide +kernel
theorem dL_isLike_118 : decode cL_isLike 118 = .ok (.aload_n 0, 1) := by decide +kernel
theorem dL_isLike_119 : decode cL_isLike 119 = .ok (.aload_n 0, 1) := by decide +kernel
theorem dL_isLike_120 : decode cL_isLike 120 = .ok (.getfield 14, 3) := by decide +kernel
theorem dL_isLike_123 : decode cL_isLike 123 = .ok (.iload_n 2, 1) := by decide +kernel
theorem dL_isLike_124 : decode cL_isLike 124 = .ok (.iaload, 1) := by decide +kernel
theorem dL_isLike_125 : decode cL_isLike 125 = .ok (.invokevirtual 81, 3) := by decide +kernel
theorem dL_isLike_128 : decode cL_isLike 128 = .ok (.if_icmp .ne 42, 3) := by decide +kernel
theorem dL_isLike_131 : decode cL_isLike 131 = .ok (.aload_n 1, 1) := by decide +kernel
theorem dL_isLike_132 : decode cL_isLike 132 = .ok (.iload_n 2, 1) := by decide +kernel
theorem dL_isLike_133 : decode cL_isLike 133 = .ok (.invokevirtual 143, 3) := by decide +kernel
theorem dL_isLike_136 : decode cL_isLike 136 = .ok (.iload_n 3, 1) := by decide +kernel
theorem dL_isLike_137 : decode cL_isLike 137 = .ok (.if_icmp .ne 33, 3) := by decide +kernel
theorem dL_isLike_140 : decode cL_isLike 140 = .ok (.aload_n 1, 1) := by decide +kernel
theorem dL_isLike_141 : decode cL_isLike 141 = .ok (.iload_n 2, 1) := by decide +kernel
theorem dL_isLike_142 : decode cL_isLike 142 = .ok (.invokevirtual 146, 3) := by decide +kernel
theorem dL_isLike_145 : decode cL_isLike 145 = .ok (.ifCond .ge 7, 3) := by decide +kernel
theorem dL_isLike_148 : decode cL_isLike 148 = .ok (.iconst 1, 1) := by decide +kernel
theorem dL_isLike_149 : decode cL_isLike 149 = .ok (.goto 4, 3) := by decide +kernel
theorem dL_isLike_152 : decode cL_isLike 152 = .ok (.iconst 0, 1) := by decide +kernel
theorem dL_isLike_153 : decode cL_isLike 153 = .ok (.aload_n 0, 1) := by decide +kernel
theorem dL_isLike_154 : decode cL_isLike 154 = .ok (.getfield 14, 3) := by decide +kernel
theorem dL_isLike_157 : decode cL_isLike 157 = .ok (.iload_n 2, 1) := by decide +kernel
theorem dL_isLike_158 : decode cL_isLike 158 = .ok (.iaload, 1) := by decide +kernel
theorem dL_isLike_159 : decode cL_isLike 159 = .ok (.ifCond .ne 7, 3) := by decide +kernel
theorem dL_isLike_162 : decode cL_isLike 162 = .ok (.iconst 1, 1) := by decide +kernel
theorem dL_isLike_163 : decode cL_isLike 163 = .ok (.goto 4, 3) := by decide +kernel
theorem dL_isLike_166 : decode cL_isLike 166 = .ok (.iconst 0, 1) := by decide +kernel
theorem dL_isLike_167 : decode cL_isLike 167 = .ok (.if_icmp .eq 5, 3) := by decide +kernel
theorem dL_isLike_170 : decode cL_isLike 170 = .ok (.iconst 0, 1) := by decide +kernel
theorem dL_isLike_171 : decode cL_isLike 171 = .ok (.ireturn, 1) := by decide +kernel
theorem dL_isLike_172 : decode cL_isLike 172 = .ok (.aload_n 0, 1) := by decide +kernel
theorem dL_isLike_173 : decode cL_isLike 173 = .ok (.iconst 0, 1) := by decide +kernel
theorem dL_isLike_174 : decode cL_isLike 174 = .ok (.putfield 120, 3) := by decide +kernel
theorem dL_isLike_177 : decode cL_isLike 177 = .ok (.aload_n 0, 1) := by decide +kernel
theorem dL_isLike_178 : decode cL_isLike 178 = .ok (.getfield 14, 3) := by decide +kernel
theorem dL_isLike_181 : decode cL_isLike 181 = .ok (.iload_n 2, 1) := by decide +kernel
theorem dL_isLike_182 : decode cL_isLike 182 = .ok (.iaload, 1) := by decide +kernel
theorem dL_isLike_183 : decode cL_isLike 183 = .ok (.ifCond .le 42, 3) := by decide +kernel
theorem dL_isLike_186 : decode cL_isLike 186 = .ok (.aload_n 0, 1) := by decide +kernel
theorem dL_isLike_187 : decode cL_isLike 187 = .ok (.aload_n 1, 1) := by decide +kernel
theorem dL_isLike_188 : decode cL_isLike 188 = .ok (.iload_n 2, 1) := by decide +kernel
theorem dL_isLike_189 : decode cL_isLike 189 = .ok (.aload_n 1, 1) := by decide +kernel
theorem dL_isLike_190 : decode cL_isLike 190 = .ok (.iload_n 2, 1) := by decide +kernel
theorem dL_isLike_191 : decode cL_isLike 191 = .ok (.invokevirtual 146, 3) := by decide +kernel
theorem dL_isLike_194 : decode cL_isLike 194 = .ok (.aload_n 0, 1) := by decide +kernel
theorem dL_isLike_195 : decode cL_isLike 195 = .ok (.aload_n 0, 1) := by decide +kernel
theorem dL_isLike_196 : decode cL_isLike 196 = .ok (.getfield 14, 3) := by decide +kernel
theorem dL_isLike_199 : decode cL_isLike 199 = .ok (.iload_n 2, 1) := by decide +kernel
theorem dL_isLike_200 : decode cL_isLike 200 = .ok (.iaload, 1) := by decide +kernel
theorem dL_isLike_201 : decode cL_isLike 201 = .ok (.invokevirtual 81, 3) := by decide +kernel
theorem dL_isLike_204 : decode cL_isLike 204 = .ok (.invokevirtual 132, 3) := by decide +kernel
theorem dL_isLike_207 : decode cL_isLike 207 = .ok (.ifCond .eq 16, 3) := by decide +kernel
theorem dL_isLike_210 : decode cL_isLike 210 = .ok (.aload_n 0, 1) := by decide +kernel
theorem dL_isLike_211 : decode cL_isLike 211 = .ok (.getfield 120, 3) := by decide +kernel
theorem dL_isLike_214 : decode cL_isLike 214 = .ok (.aload_n 0, 1) := by decide +kernel
theorem dL_isLike_215 : decode cL_isLike 215 = .ok (.getfield 14, 3) := by decide +kernel
theorem dL_isLike_218 : decode cL_isLike 218 = .ok (.iload_n 2, 1) := by decide +kernel
theorem dL_isLike_219 : decode cL_isLike 219 = .ok (.iaload, 1) := by decide +kernel
theorem dL_isLike_220 : decode cL_isLike 220 = .ok (.if_icmp .eq 5, 3) := by decide +kernel
theorem dL_isLike_223 : decode cL_isLike 223 = .ok (.iconst 0, 1) := by decide +kernel
theorem dL_isLike_224 : decode cL_isLike 224 = .ok (.ireturn, 1) := by decide +kernel
theorem dL_isLike_225 : decode cL_isLike 225 = .ok (.iinc 2 1, 3) := by decide +kernel
theorem dL_isLike_228 : decode cL_isLike 228 = .ok (.goto (-213), 3) := by decide +kernel
theorem dL_isLike_231 : decode cL_isLike 231 = .ok (.aload_n 1, 1) := by decide +kernel
theorem dL_isLike_232 : decode cL_isLike 232 = .ok (.invokevirtual 149, 3) := by decide +kernel
theorem dL_isLike_235 : decode cL_isLike 235 = .ok (.ireturn, 1) := by decide +kernel
theorem dL_law_0 : decode cL_law 0 = .ok (.new 46, 3) := by decide +kernel
theorem dL_law_3 : decode cL_law 3 = .ok (.dup, 1) := by decide +kernel
theorem dL_law_4 : decode cL_law 4 = .ok (.invokespecial 153, 3) := by decide +kernel
theorem dL_law_7 : decode cL_law 7 = .ok (.astore_n 1, 1) := by decide +kernel
theorem dL_law_8 : decode cL_law 8 = .ok (.new 10, 3) := by decide +kernel
theorem dL_law_11 : decode cL_law 11 = .ok (.dup, 1) := by decide +kernel
theorem dL_law_12 : decode cL_law 12 = .ok (.invokespecial 154, 3) := by decide +kernel
theorem dL_law_15 : decode cL_law 15 = .ok (.astore_n 2, 1) := by decide +kernel
theorem dL_law_16 : decode cL_law 16 = .ok (.aload_n 0, 1) := by decide +kernel
theorem dL_law_17 : decode cL_law 17 = .ok (.iconst 0, 1) := by decide +kernel
theorem dL_law_18 : decode cL_law 18 = .ok (.invokestatic 155, 3) := by decide +kernel
theorem dL_law_21 : decode cL_law 21 = .ok (.iconst 0, 1) := by decide +kernel
theorem dL_law_22 : decode cL_law 22 = .ok (.bipush 6, 2) := by decide +kernel
theorem dL_law_24 : decode cL_law 24 = .ok (.invokestatic 72, 3) := by decide +kernel
theorem dL_law_27 : decode cL_law 27 = .ok (.istore_n 3, 1) := by decide +kernel
theorem dL_law_28 : decode cL_law 28 = .ok (.new 159, 3) := by decide +kernel
theorem dL_law_31 : decode cL_law 31 = .ok (.dup, 1) := by decide +kernel
theorem dL_law_32 : decode cL_law 32 = .ok (.ldc 161, 2) := by decide +kernel
theorem dL_law_34 : decode cL_law 34 = .ok (.invokespecial 163, 3) := by decide +kernel
theorem dL_law_37 : decode cL_law 37 = .ok (.astore 4, 2) := by decide +kernel
theorem dL_law_39 : decode cL_law 39 = .ok (.iconst 0, 1) := by decide +kernel
theorem dL_law_40 : decode cL_law 40 = .ok (.istore 5, 2) := by decide +kernel
theorem dL_law_42 : decode cL_law 42 = .ok (.iload 5, 2) := by decide +kernel
theorem dL_law_44 : decode cL_law 44 = .ok (.iload_n 3, 1) := by decide +kernel
theorem dL_law_45 : decode cL_law 45 = .ok (.if_icmp .ge 81, 3) := by decide +kernel
theorem dL_law_48 : decode cL_law 48 = .ok (.aload_n 0, 1) := by decide +kernel
theorem dL_law_49 : decode cL_law 49 = .ok (.iconst 1, 1) := by decide +kernel
theorem dL_law_50 : decode cL_law 50 = .ok (.iload 5, 2) := by decide +kernel
theorem dL_law_52 : decode cL_law 52 = .ok (.iconst 2, 1) := by decide +kernel
theorem dL_law_53 : decode cL_law 53 = .ok (.idiv, 1) := by decide +kernel
theorem dL_law_54 : decode cL_law 54 = .ok (.iadd, 1) := by decide +kernel
theorem dL_law_55 : decode cL_law 55 = .ok (.invokestatic 155, 3) := by decide +kernel
theorem dL_law_58 : decode cL_law 58 = .ok (.bipush 8, 2) := by decide +kernel
theorem dL_law_60 : decode cL_law 60 = .ok (.iload 5, 2) := by decide +kernel
theorem dL_law_62 : decode cL_law 62 = .ok (.iconst 2, 1) := by decide +kernel
theorem dL_law_63 : decode cL_law 63 = .ok (.irem, 1) := by decide +kernel
theorem dL_law_64 : decode cL_law 64 = .ok (.imul, 1) := by decide +kernel
theorem dL_law_65 : decode cL_law 65 = .ok (.bipush 6, 2) := by decide +kernel
theorem dL_law_67 : decode cL_law 67 = .ok (.invokestatic 72, 3) := by decide +kernel
theorem dL_law_70 : decode cL_law 70 = .ok (.bipush 20, 2) := by decide +kernel
theorem dL_law_72 : decode cL_law 72 = .ok (.isub, 1) := by decide +kernel
theorem dL_law_73 : decode cL_law 73 = .ok (.istore 6, 2) := by decide +kernel
theorem dL_law_75 : decode cL_law 75 = .ok (.aload_n 2, 1) := by decide +kernel
theorem dL_law_76 : decode cL_law 76 = .ok (.getfield 9, 3) := by decide +kernel
theorem dL_law_79 : decode cL_law 79 = .ok (.iconst 0, 1) := by decide +kernel
theorem dL_law_80 : decode cL_law 80 = .ok (.aaload, 1) := by decide +kernel
theorem dL_law_81 : decode cL_law 81 = .ok (.iload 5, 2) := by decide +kernel
theorem dL_law_83 : decode cL_law 83 = .ok (.iload 6, 2) := by decide +kernel
theorem dL_law_85 : decode cL_law 85 = .ok (.iastore, 1) := by decide +kernel
theorem dL_law_86 : decode cL_law 86 = .ok (.aload 4, 2) := by decide +kernel
theorem dL_law_88 : decode cL_law 88 = .ok (.iload 6, 2) := by decide +kernel
theorem dL_law_90 : decode cL_law 90 = .ok (.ifCond .ge 8, 3) := by decide +kernel
theorem dL_law_93 : decode cL_law 93 = .ok (.ldc 166, 2) := by decide +kernel
theorem dL_law_95 : decode cL_law 95 = .ok (.goto 5, 3) := by decide +kernel
theorem dL_law_98 : decode cL_law 98 = .ok (.ldc 168, 2) := by decide +kernel
theorem dL_law_100 : decode cL_law 100 = .ok (.invokevirtual 170, 3) := by decide +kernel
theorem dL_law_103 : decode cL_law 103 = .ok (.iload 6, 2) := by decide +kernel
theorem dL_law_105 : decode cL_law 105 = .ok (.ifCond .ge 9, 3) := by decide +kernel
theorem dL_law_108 : decode cL_law 108 = .ok (.iload 6, 2) := by decide +kernel
theorem dL_law_110 : decode cL_law 110 = .ok (.ineg, 1) := by decide +kernel
theorem dL_law_111 : decode cL_law 111 = .ok (.goto 5, 3) := by decide +kernel
theorem dL_law_114 : decode cL_law 114 = .ok (.iload 6, 2) := by decide +kernel
theorem dL_law_116 : decode cL_law 116 = .ok (.invokevirtual 173, 3) := by decide +kernel
theorem dL_law_119 : decode cL_law 119 = .ok (.pop, 1) := by decide +kernel
theorem dL_law_120 : decode cL_law 120 = .ok (.iinc 5 1, 3) := by decide +kernel
theorem dL_law_123 : decode cL_law 123 = .ok (.goto (-81), 3) := by decide +kernel
theorem dL_law_126 : decode cL_law 126 = .ok (.aload 4, 2) := by decide +kernel
theorem dL_law_128 : decode cL_law 128 = .ok (.bipush 59, 2) := by decide +kernel
theorem dL_law_130 : decode cL_law 130 = .ok (.invokevirtual 176, 3) := by decide +kernel
theorem dL_law_133 : decode cL_law 133 = .ok (.pop, 1) := by decide +kernel
theorem dL_law_134 : decode cL_law 134 = .ok (.aload_n 2, 1) := by decide +kernel
theorem dL_law_135 : decode cL_law 135 = .ok (.getfield 14, 3) := by decide +kernel
theorem dL_law_138 : decode cL_law 138 = .ok (.iconst 0, 1) := by decide +kernel
theorem dL_law_139 : decode cL_law 139 = .ok (.iload_n 3, 1) := by decide +kernel
theorem dL_law_140 : decode cL_law 140 = .ok (.iastore, 1) := by decide +kernel
theorem dL_law_141 : decode cL_law 141 = .ok (.aload_n 2, 1) := by decide +kernel
theorem dL_law_142 : decode cL_law 142 = .ok (.getfield 18, 3) := by decide +kernel
theorem dL_law_145 : decode cL_law 145 = .ok (.iconst 0, 1) := by decide +kernel
theorem dL_law_146 : decode cL_law 146 = .ok (.iconst (-1), 1) := by decide +kernel
theorem dL_law_147 : decode cL_law 147 = .ok (.iastore, 1) := by decide +kernel
theorem dL_law_148 : decode cL_law 148 = .ok (.aload_n 1, 1) := by decide +kernel
theorem dL_law_149 : decode cL_law 149 = .ok (.aload 4, 2) := by decide +kernel
theorem dL_law_151 : decode cL_law 151 = .ok (.invokevirtual 179, 3) := by decide +kernel
theorem dL_law_154 : decode cL_law 154 = .ok (.invokestatic 183, 3) := by decide +kernel
theorem dL_law_157 : decode cL_law 157 = .ok (.aload_n 1, 1) := by decide +kernel
theorem dL_law_158 : decode cL_law 158 = .ok (.invokevirtual 187, 3) := by decide +kernel
theorem dL_law_161 : decode cL_law 161 = .ok (.iload_n 3, 1) := by decide +kernel
theorem dL_law_162 : decode cL_law 162 = .ok (.if_icmp .ne 11, 3) := by decide +kernel
theorem dL_law_165 : decode cL_law 165 = .ok (.aload_n 2, 1) := by decide +kernel
theorem dL_law_166 : decode cL_law 166 = .ok (.aload_n 1, 1) := by decide +kernel
theorem dL_law_167 : decode cL_law 167 = .ok (.invokevirtual 190, 3) := by decide +kernel
theorem dL_law_170 : decode cL_law 170 = .ok (.ifCond .ne 5, 3) := by decide +kernel
theorem dL_law_173 : decode cL_law 173 = .ok (.iconst 0, 1) := by decide +kernel
theorem dL_law_174 : decode cL_law 174 = .ok (.ireturn, 1) := by decide +kernel
theorem dL_law_175 : decode cL_law 175 = .ok (.iconst 0, 1) := by decide +kernel
theorem dL_law_176 : decode cL_law 176 = .ok (.istore 5, 2) := by decide +kernel
theorem dL_law_178 : decode cL_law 178 = .ok (.iload 5, 2) := by decide +kernel
theorem dL_law_180 : decode cL_law 180 = .ok (.bipush 44, 2) := by decide +kernel
theorem dL_law_182 : decode cL_law 182 = .ok (.if_icmp .ge 48, 3) := by decide +kernel
theorem dL_law_185 : decode cL_law 185 = .ok (.aload_n 2, 1) := by decide +kernel
theorem dL_law_186 : decode cL_law 186 = .ok (.aload_n 1, 1) := by decide +kernel
theorem dL_law_187 : decode cL_law 187 = .ok (.aload_n 0, 1) := by decide +kernel
theorem dL_law_188 : decode cL_law 188 = .ok (.bipush 34, 2) := by decide +kernel
theorem dL_law_190 : decode cL_law 190 = .ok (.iload 5, 2) := by decide +kernel
theorem dL_law_192 : decode cL_law 192 = .ok (.iadd, 1) := by decide +kernel
theorem dL_law_193 : decode cL_law 193 = .ok (.invokestatic 155, 3) := by decide +kernel
theorem dL_law_196 : decode cL_law 196 = .ok (.invokevirtual 194, 3) := by decide +kernel
theorem dL_law_199 : decode cL_law 199 = .ok (.ifCond .ne 5, 3) := by decide +kernel
theorem dL_law_202 : decode cL_law 202 = .ok (.iconst 0, 1) := by decide +kernel
theorem dL_law_203 : decode cL_law 203 = .ok (.ireturn, 1) := by decide +kernel
theorem dL_law_204 : decode cL_law 204 = .ok (.iload 5, 2) := by decide +kernel
theorem dL_law_206 : decode cL_law 206 = .ok (.bipush 8, 2) := by decide +kernel
theorem dL_law_208 : decode cL_law 208 = .ok (.irem, 1) := by decide +kernel
theorem dL_law_209 : decode cL_law 209 = .ok (.bipush 7, 2) := by decide +kernel
theorem dL_law_211 : decode cL_law 211 = .ok (.if_icmp .ne 13, 3) := by decide +kernel
theorem dL_law_214 : decode cL_law 214 = .ok (.aload_n 2, 1) := by decide +kernel
theorem dL_law_215 : decode cL_law 215 = .ok (.aload_n 1, 1) := by decide +kernel
theorem dL_law_216 : decode cL_law 216 = .ok (.invokevirtual 190, 3) := by decide +kernel
theorem dL_law_219 : decode cL_law 219 = .ok (.ifCond .ne 5, 3) := by decide +kernel
theorem dL_law_222 : decode cL_law 222 = .ok (.iconst 0, 1) := by decide +kernel
theorem dL_law_223 : decode cL_law 223 = .ok (.ireturn, 1) := by decide +kernel
theorem dL_law_224 : decode cL_law 224 = .ok (.iinc 5 1, 3) := by decide +kernel
theorem dL_law_227 : decode cL_law 227 = .ok (.goto (-49), 3) := by decide +kernel
theorem dL_law_230 : decode cL_law 230 = .ok (.aload_n 2, 1) := by decide +kernel
theorem dL_law_231 : decode cL_law 231 = .ok (.aload_n 1, 1) := by decide +kernel
theorem dL_law_232 : decode cL_law 232 = .ok (.invokevirtual 190, 3) := by decide +kernel
theorem dL_law_235 : decode cL_law 235 = .ok (.ireturn, 1) := by decide +kernel
