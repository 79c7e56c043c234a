theorem dX0_init_0 : decode cX0_init 0 = .ok (.aload_n 0, 1) := by decide +kernel
theorem dX0_init_1 : decode cX0_init 1 = .ok (.invokespecial 3, 3) := by decide +kernel
theorem dX0_init_4 : decode cX0_init 4 = .ok (.aload_n 0, 1) := by decide +kernel
theorem dX0_init_5 : decode cX0_init 5 = .ok (.sipush 138, 3) := by decide +kernel
theorem dX0_init_8 : decode cX0_init 8 = .ok (.newarray .boolean, 2) := by decide +kernel
theorem dX0_init_10 : decode cX0_init 10 = .ok (.putfield 9, 3) := by decide +kernel
theorem dX0_init_13 : decode cX0_init 13 = .ok (.aload_n 0, 1) := by decide +kernel
theorem dX0_init_14 : decode cX0_init 14 = .ok (.aload_n 1, 1) := by decide +kernel
theorem dX0_init_15 : decode cX0_init 15 = .ok (.putfield 15, 3) := by decide +kernel
theorem dX0_init_18 : decode cX0_init 18 = .ok (.aload_n 0, 1) := by decide +kernel
theorem dX0_init_19 : decode cX0_init 19 = .ok (.aload_n 2, 1) := by decide +kernel
theorem dX0_init_20 : decode cX0_init 20 = .ok (.putfield 19, 3) := by decide +kernel
theorem dX0_init_23 : decode cX0_init 23 = .ok (.return_, 1) := by decide +kernel
theorem dX0_passes_0 : decode cX0_passes 0 = .ok (.iconst 0, 1) := by decide +kernel
theorem dX0_passes_1 : decode cX0_passes 1 = .ok (.istore_n 1, 1) := by decide +kernel
theorem dX0_passes_2 : decode cX0_passes 2 = .ok (.iload_n 1, 1) := by decide +kernel
theorem dX0_passes_3 : decode cX0_passes 3 = .ok (.aload_n 0, 1) := by decide +kernel
theorem dX0_passes_4 : decode cX0_passes 4 = .ok (.getfield 15, 3) := by decide +kernel
theorem dX0_passes_7 : decode cX0_passes 7 = .ok (.getfield 23, 3) := by decide +kernel
theorem dX0_passes_10 : decode cX0_passes 10 = .ok (.getfield 29, 3) := by decide +kernel
theorem dX0_passes_13 : decode cX0_passes 13 = .ok (.if_icmp .ge 41, 3) := by decide +kernel
theorem dX0_passes_16 : decode cX0_passes 16 = .ok (.aload_n 0, 1) := by decide +kernel
theorem dX0_passes_17 : decode cX0_passes 17 = .ok (.getfield 15, 3) := by decide +kernel
theorem dX0_passes_20 : decode cX0_passes 20 = .ok (.getfield 23, 3) := by decide +kernel
theorem dX0_passes_23 : decode cX0_passes 23 = .ok (.iload_n 1, 1) := by decide +kernel
theorem dX0_passes_24 : decode cX0_passes 24 = .ok (.invokevirtual 35, 3) := by decide +kernel
theorem dX0_passes_27 : decode cX0_passes 27 = .ok (.ifCond .eq 21, 3) := by decide +kernel
theorem dX0_passes_30 : decode cX0_passes 30 = .ok (.aload_n 0, 1) := by decide +kernel
theorem dX0_passes_31 : decode cX0_passes 31 = .ok (.iload_n 1, 1) := by decide +kernel
theorem dX0_passes_32 : decode cX0_passes 32 = .ok (.invokevirtual 39, 3) := by decide +kernel
theorem dX0_passes_35 : decode cX0_passes 35 = .ok (.ifCond .eq 11, 3) := by decide +kernel
theorem dX0_passes_38 : decode cX0_passes 38 = .ok (.aload_n 0, 1) := by decide +kernel
theorem dX0_passes_39 : decode cX0_passes 39 = .ok (.iload_n 1, 1) := by decide +kernel
theorem dX0_passes_40 : decode cX0_passes 40 = .ok (.invokevirtual 42, 3) := by decide +kernel
theorem dX0_passes_43 : decode cX0_passes 43 = .ok (.ifCond .ne 5, 3) := by decide +kernel
theorem dX0_passes_46 : decode cX0_passes 46 = .ok (.iconst 0, 1) := by decide +kernel
theorem dX0_passes_47 : decode cX0_passes 47 = .ok (.ireturn, 1) := by decide +kernel
theorem dX0_passes_48 : decode cX0_passes 48 = .ok (.iinc 1 1, 3) := by decide +kernel
theorem dX0_passes_51 : decode cX0_passes 51 = .ok (.goto (-49), 3) := by decide +kernel
theorem dX0_passes_54 : decode cX0_passes 54 = .ok (.aload_n 0, 1) := by decide +kernel
theorem dX0_passes_55 : decode cX0_passes 55 = .ok (.invokevirtual 45, 3) := by decide +kernel
theorem dX0_passes_58 : decode cX0_passes 58 = .ok (.ifCond .eq 30, 3) := by decide +kernel
theorem dX0_passes_61 : decode cX0_passes 61 = .ok (.aload_n 0, 1) := by decide +kernel
theorem dX0_passes_62 : decode cX0_passes 62 = .ok (.getfield 15, 3) := by decide +kernel
theorem dX0_passes_65 : decode cX0_passes 65 = .ok (.getfield 23, 3) := by decide +kernel
theorem dX0_passes_68 : decode cX0_passes 68 = .ok (.invokevirtual 49, 3) := by decide +kernel
theorem dX0_passes_71 : decode cX0_passes 71 = .ok (.aload_n 0, 1) := by decide +kernel
theorem dX0_passes_72 : decode cX0_passes 72 = .ok (.getfield 15, 3) := by decide +kernel
theorem dX0_passes_75 : decode cX0_passes 75 = .ok (.getfield 53, 3) := by decide +kernel
theorem dX0_passes_78 : decode cX0_passes 78 = .ok (.getfield 57, 3) := by decide +kernel
theorem dX0_passes_81 : decode cX0_passes 81 = .ok (.if_icmp .ne 7, 3) := by decide +kernel
theorem dX0_passes_84 : decode cX0_passes 84 = .ok (.iconst 1, 1) := by decide +kernel
theorem dX0_passes_85 : decode cX0_passes 85 = .ok (.goto 4, 3) := by decide +kernel
theorem dX0_passes_88 : decode cX0_passes 88 = .ok (.iconst 0, 1) := by decide +kernel
theorem dX0_passes_89 : decode cX0_passes 89 = .ok (.ireturn, 1) := by decide +kernel
theorem dX0_treePasses_0 : decode cX0_treePasses 0 = .ok (.aload_n 0, 1) := by decide +kernel
theorem dX0_treePasses_1 : decode cX0_treePasses 1 = .ok (.getfield 15, 3) := by decide +kernel
theorem dX0_treePasses_4 : decode cX0_treePasses 4 = .ok (.getfield 23, 3) := by decide +kernel
theorem dX0_treePasses_7 : decode cX0_treePasses 7 = .ok (.iload_n 1, 1) := by decide +kernel
theorem dX0_treePasses_8 : decode cX0_treePasses 8 = .ok (.invokevirtual 62, 3) := by decide +kernel
theorem dX0_treePasses_11 : decode cX0_treePasses 11 = .ok (.istore_n 2, 1) := by decide +kernel
theorem dX0_treePasses_12 : decode cX0_treePasses 12 = .ok (.aload_n 0, 1) := by decide +kernel
theorem dX0_treePasses_13 : decode cX0_treePasses 13 = .ok (.getfield 15, 3) := by decide +kernel
theorem dX0_treePasses_16 : decode cX0_treePasses 16 = .ok (.iload_n 1, 1) := by decide +kernel
theorem dX0_treePasses_17 : decode cX0_treePasses 17 = .ok (.invokevirtual 66, 3) := by decide +kernel
theorem dX0_treePasses_20 : decode cX0_treePasses 20 = .ok (.istore_n 3, 1) := by decide +kernel
theorem dX0_treePasses_21 : decode cX0_treePasses 21 = .ok (.iload_n 3, 1) := by decide +kernel
theorem dX0_treePasses_22 : decode cX0_treePasses 22 = .ok (.ifCond .ne 14, 3) := by decide +kernel
theorem dX0_treePasses_25 : decode cX0_treePasses 25 = .ok (.iload_n 2, 1) := by decide +kernel
theorem dX0_treePasses_26 : decode cX0_treePasses 26 = .ok (.iconst (-1), 1) := by decide +kernel
theorem dX0_treePasses_27 : decode cX0_treePasses 27 = .ok (.if_icmp .ne 7, 3) := by decide +kernel
theorem dX0_treePasses_30 : decode cX0_treePasses 30 = .ok (.iconst 1, 1) := by decide +kernel
theorem dX0_treePasses_31 : decode cX0_treePasses 31 = .ok (.goto 4, 3) := by decide +kernel
theorem dX0_treePasses_34 : decode cX0_treePasses 34 = .ok (.iconst 0, 1) := by decide +kernel
theorem dX0_treePasses_35 : decode cX0_treePasses 35 = .ok (.ireturn, 1) := by decide +kernel
theorem dX0_treePasses_36 : decode cX0_treePasses 36 = .ok (.aload_n 0, 1) := by decide +kernel
theorem dX0_treePasses_37 : decode cX0_treePasses 37 = .ok (.iload_n 2, 1) := by decide +kernel
theorem dX0_treePasses_38 : decode cX0_treePasses 38 = .ok (.iload_n 3, 1) := by decide +kernel
theorem dX0_treePasses_39 : decode cX0_treePasses 39 = .ok (.iconst 1, 1) := by decide +kernel
theorem dX0_treePasses_40 : decode cX0_treePasses 40 = .ok (.invokevirtual 69, 3) := by decide +kernel
theorem dX0_treePasses_43 : decode cX0_treePasses 43 = .ok (.ifCond .eq 27, 3) := by decide +kernel
theorem dX0_treePasses_46 : decode cX0_treePasses 46 = .ok (.aload_n 0, 1) := by decide +kernel
theorem dX0_treePasses_47 : decode cX0_treePasses 47 = .ok (.iload_n 2, 1) := by decide +kernel
theorem dX0_treePasses_48 : decode cX0_treePasses 48 = .ok (.iload_n 3, 1) := by decide +kernel
theorem dX0_treePasses_49 : decode cX0_treePasses 49 = .ok (.invokevirtual 73, 3) := by decide +kernel
theorem dX0_treePasses_52 : decode cX0_treePasses 52 = .ok (.aload_n 0, 1) := by decide +kernel
theorem dX0_treePasses_53 : decode cX0_treePasses 53 = .ok (.getfield 15, 3) := by decide +kernel
theorem dX0_treePasses_56 : decode cX0_treePasses 56 = .ok (.getfield 23, 3) := by decide +kernel
theorem dX0_treePasses_59 : decode cX0_treePasses 59 = .ok (.iload_n 1, 1) := by decide +kernel
theorem dX0_treePasses_60 : decode cX0_treePasses 60 = .ok (.invokevirtual 77, 3) := by decide +kernel
theorem dX0_treePasses_63 : decode cX0_treePasses 63 = .ok (.if_icmp .ne 7, 3) := by decide +kernel
theorem dX0_treePasses_66 : decode cX0_treePasses 66 = .ok (.iconst 1, 1) := by decide +kernel
theorem dX0_treePasses_67 : decode cX0_treePasses 67 = .ok (.goto 4, 3) := by decide +kernel
theorem dX0_treePasses_70 : decode cX0_treePasses 70 = .ok (.iconst 0, 1) := by decide +kernel
theorem dX0_treePasses_71 : decode cX0_treePasses 71 = .ok (.ireturn, 1) := by decide +kernel
theorem dX0_nodePasses_0 : decode cX0_nodePasses 0 = .ok (.aload_n 0, 1) := by decide +kernel
theorem dX0_nodePasses_1 : decode cX0_nodePasses 1 = .ok (.getfield 15, 3) := by decide +kernel
theorem dX0_nodePasses_4 : decode cX0_nodePasses 4 = .ok (.getfield 53, 3) := by decide +kernel
theorem dX0_nodePasses_7 : decode cX0_nodePasses 7 = .ok (.iload_n 1, 1) := by decide +kernel
theorem dX0_nodePasses_8 : decode cX0_nodePasses 8 = .ok (.invokevirtual 80, 3) := by decide +kernel
theorem dX0_nodePasses_11 : decode cX0_nodePasses 11 = .ok (.istore 4, 2) := by decide +kernel
theorem dX0_nodePasses_13 : decode cX0_nodePasses 13 = .ok (.aload_n 0, 1) := by decide +kernel
theorem dX0_nodePasses_14 : decode cX0_nodePasses 14 = .ok (.getfield 15, 3) := by decide +kernel
theorem dX0_nodePasses_17 : decode cX0_nodePasses 17 = .ok (.getfield 53, 3) := by decide +kernel
theorem dX0_nodePasses_20 : decode cX0_nodePasses 20 = .ok (.iload_n 1, 1) := by decide +kernel
theorem dX0_nodePasses_21 : decode cX0_nodePasses 21 = .ok (.invokevirtual 83, 3) := by decide +kernel
theorem dX0_nodePasses_24 : decode cX0_nodePasses 24 = .ok (.ifCond .eq 18, 3) := by decide +kernel
theorem dX0_nodePasses_27 : decode cX0_nodePasses 27 = .ok (.aload_n 0, 1) := by decide +kernel
theorem dX0_nodePasses_28 : decode cX0_nodePasses 28 = .ok (.getfield 15, 3) := by decide +kernel
theorem dX0_nodePasses_31 : decode cX0_nodePasses 31 = .ok (.getfield 53, 3) := by decide +kernel
theorem dX0_nodePasses_34 : decode cX0_nodePasses 34 = .ok (.iload_n 1, 1) := by decide +kernel
theorem dX0_nodePasses_35 : decode cX0_nodePasses 35 = .ok (.invokevirtual 86, 3) := by decide +kernel
theorem dX0_nodePasses_38 : decode cX0_nodePasses 38 = .ok (.iload_n 2, 1) := by decide +kernel
theorem dX0_nodePasses_39 : decode cX0_nodePasses 39 = .ok (.if_icmp .eq 5, 3) := by decide +kernel
theorem dX0_nodePasses_42 : decode cX0_nodePasses 42 = .ok (.iconst 0, 1) := by decide +kernel
theorem dX0_nodePasses_43 : decode cX0_nodePasses 43 = .ok (.ireturn, 1) := by decide +kernel
theorem dX0_nodePasses_44 : decode cX0_nodePasses 44 = .ok (.iload 4, 2) := by decide +kernel
theorem dX0_nodePasses_46 : decode cX0_nodePasses 46 = .ok (.iconst 1, 1) := by decide +kernel
theorem dX0_nodePasses_47 : decode cX0_nodePasses 47 = .ok (.if_icmp .lt 13, 3) := by decide +kernel
theorem dX0_nodePasses_50 : decode cX0_nodePasses 50 = .ok (.iload 4, 2) := by decide +kernel
theorem dX0_nodePasses_52 : decode cX0_nodePasses 52 = .ok (.iconst 4, 1) := by decide +kernel
theorem dX0_nodePasses_53 : decode cX0_nodePasses 53 = .ok (.if_icmp .ge 9, 3) := by decide +kernel
theorem dX0_nodePasses_56 : decode cX0_nodePasses 56 = .ok (.iload_n 3, 1) := by decide +kernel
theorem dX0_nodePasses_57 : decode cX0_nodePasses 57 = .ok (.ifCond .ne 5, 3) := by decide +kernel
theorem dX0_nodePasses_60 : decode cX0_nodePasses 60 = .ok (.iconst 0, 1) := by decide +kernel
theorem dX0_nodePasses_61 : decode cX0_nodePasses 61 = .ok (.ireturn, 1) := by decide +kernel
theorem dX0_nodePasses_62 : decode cX0_nodePasses 62 = .ok (.iconst 0, 1) := by decide +kernel
theorem dX0_nodePasses_63 : decode cX0_nodePasses 63 = .ok (.istore 5, 2) := by decide +kernel
theorem dX0_nodePasses_65 : decode cX0_nodePasses 65 = .ok (.iload_n 2, 1) := by decide +kernel
theorem dX0_nodePasses_66 : decode cX0_nodePasses 66 = .ok (.iconst 1, 1) := by decide +kernel
theorem dX0_nodePasses_67 : decode cX0_nodePasses 67 = .ok (.if_icmp .le 59, 3) := by decide +kernel
theorem dX0_nodePasses_70 : decode cX0_nodePasses 70 = .ok (.iload 5, 2) := by decide +kernel
theorem dX0_nodePasses_72 : decode cX0_nodePasses 72 = .ok (.iload 4, 2) := by decide +kernel
theorem dX0_nodePasses_74 : decode cX0_nodePasses 74 = .ok (.if_icmp .ge 52, 3) := by decide +kernel
theorem dX0_nodePasses_77 : decode cX0_nodePasses 77 = .ok (.aload_n 0, 1) := by decide +kernel
theorem dX0_nodePasses_78 : decode cX0_nodePasses 78 = .ok (.aload_n 0, 1) := by decide +kernel
theorem dX0_nodePasses_79 : decode cX0_nodePasses 79 = .ok (.getfield 15, 3) := by decide +kernel
theorem dX0_nodePasses_82 : decode cX0_nodePasses 82 = .ok (.getfield 53, 3) := by decide +kernel
theorem dX0_nodePasses_85 : decode cX0_nodePasses 85 = .ok (.iload_n 1, 1) := by decide +kernel
theorem dX0_nodePasses_86 : decode cX0_nodePasses 86 = .ok (.iload 5, 2) := by decide +kernel
theorem dX0_nodePasses_88 : decode cX0_nodePasses 88 = .ok (.invokevirtual 89, 3) := by decide +kernel
theorem dX0_nodePasses_91 : decode cX0_nodePasses 91 = .ok (.iload_n 2, 1) := by decide +kernel
theorem dX0_nodePasses_92 : decode cX0_nodePasses 92 = .ok (.iconst 1, 1) := by decide +kernel
theorem dX0_nodePasses_93 : decode cX0_nodePasses 93 = .ok (.isub, 1) := by decide +kernel
theorem dX0_nodePasses_94 : decode cX0_nodePasses 94 = .ok (.iload_n 3, 1) := by decide +kernel
theorem dX0_nodePasses_95 : decode cX0_nodePasses 95 = .ok (.ifCond .eq 16, 3) := by decide +kernel
theorem dX0_nodePasses_98 : decode cX0_nodePasses 98 = .ok (.iload 5, 2) := by decide +kernel
theorem dX0_nodePasses_100 : decode cX0_nodePasses 100 = .ok (.iload 4, 2) := by decide +kernel
theorem dX0_nodePasses_102 : decode cX0_nodePasses 102 = .ok (.iconst 1, 1) := by decide +kernel
theorem dX0_nodePasses_103 : decode cX0_nodePasses 103 = .ok (.isub, 1) := by decide +kernel
theorem dX0_nodePasses_104 : decode cX0_nodePasses 104 = .ok (.if_icmp .ne 7, 3) := by decide +kernel
theorem dX0_nodePasses_107 : decode cX0_nodePasses 107 = .ok (.iconst 1, 1) := by decide +kernel
theorem dX0_nodePasses_108 : decode cX0_nodePasses 108 = .ok (.goto 4, 3) := by decide +kernel
theorem dX0_nodePasses_111 : decode cX0_nodePasses 111 = .ok (.iconst 0, 1) := by decide +kernel
theorem dX0_nodePasses_112 : decode cX0_nodePasses 112 = .ok (.invokevirtual 69, 3) := by decide +kernel
theorem dX0_nodePasses_115 : decode cX0_nodePasses 115 = .ok (.ifCond .ne 5, 3) := by decide +kernel
theorem dX0_nodePasses_118 : decode cX0_nodePasses 118 = .ok (.iconst 0, 1) := by decide +kernel
theorem dX0_nodePasses_119 : decode cX0_nodePasses 119 = .ok (.ireturn, 1) := by decide +kernel
theorem dX0_nodePasses_120 : decode cX0_nodePasses 120 = .ok (.iinc 5 1, 3) := by decide +kernel
theorem dX0_nodePasses_123 : decode cX0_nodePasses 123 = .ok (.goto (-58), 3) := by decide +kernel
theorem dX0_nodePasses_126 : decode cX0_nodePasses 126 = .ok (.iconst 1, 1) := by decide +kernel
theorem dX0_nodePasses_127 : decode cX0_nodePasses 127 = .ok (.ireturn, 1) := by decide +kernel
theorem dX0_countLeafElements_0 : decode cX0_countLeafElements 0 = .ok (.aload_n 0, 1) := by decide +kernel
theorem dX0_countLeafElements_1 : decode cX0_countLeafElements 1 = .ok (.getfield 15, 3) := by decide +kernel
theorem dX0_countLeafElements_4 : decode cX0_countLeafElements 4 = .ok (.getfield 53, 3) := by decide +kernel
theorem dX0_countLeafElements_7 : decode cX0_countLeafElements 7 = .ok (.iload_n 1, 1) := by decide +kernel
theorem dX0_countLeafElements_8 : decode cX0_countLeafElements 8 = .ok (.invokevirtual 80, 3) := by decide +kernel
theorem dX0_countLeafElements_11 : decode cX0_countLeafElements 11 = .ok (.istore_n 3, 1) := by decide +kernel
theorem dX0_countLeafElements_12 : decode cX0_countLeafElements 12 = .ok (.iload_n 2, 1) := by decide +kernel
theorem dX0_countLeafElements_13 : decode cX0_countLeafElements 13 = .ok (.iconst 1, 1) := by decide +kernel
theorem dX0_countLeafElements_14 : decode cX0_countLeafElements 14 = .ok (.if_icmp .gt 5, 3) := by decide +kernel
theorem dX0_countLeafElements_17 : decode cX0_countLeafElements 17 = .ok (.iload_n 3, 1) := by decide +kernel
theorem dX0_countLeafElements_18 : decode cX0_countLeafElements 18 = .ok (.ireturn, 1) := by decide +kernel
theorem dX0_countLeafElements_19 : decode cX0_countLeafElements 19 = .ok (.iconst 0, 1) := by decide +kernel
theorem dX0_countLeafElements_20 : decode cX0_countLeafElements 20 = .ok (.istore 4, 2) := by decide +kernel
theorem dX0_countLeafElements_22 : decode cX0_countLeafElements 22 = .ok (.iconst 0, 1) := by decide +kernel
theorem dX0_countLeafElements_23 : decode cX0_countLeafElements 23 = .ok (.istore 5, 2) := by decide +kernel
theorem dX0_countLeafElements_25 : decode cX0_countLeafElements 25 = .ok (.iload 5, 2) := by decide +kernel
theorem dX0_countLeafElements_27 : decode cX0_countLeafElements 27 = .ok (.iload_n 3, 1) := by decide +kernel
theorem dX0_countLeafElements_28 : decode cX0_countLeafElements 28 = .ok (.if_icmp .ge 34, 3) := by decide +kernel
theorem dX0_countLeafElements_31 : decode cX0_countLeafElements 31 = .ok (.iload 4, 2) := by decide +kernel
theorem dX0_countLeafElements_33 : decode cX0_countLeafElements 33 = .ok (.aload_n 0, 1) := by decide +kernel
theorem dX0_countLeafElements_34 : decode cX0_countLeafElements 34 = .ok (.aload_n 0, 1) := by decide +kernel
theorem dX0_countLeafElements_35 : decode cX0_countLeafElements 35 = .ok (.getfield 15, 3) := by decide +kernel
theorem dX0_countLeafElements_38 : decode cX0_countLeafElements 38 = .ok (.getfield 53, 3) := by decide +kernel
theorem dX0_countLeafElements_41 : decode cX0_countLeafElements 41 = .ok (.iload_n 1, 1) := by decide +kernel
theorem dX0_countLeafElements_42 : decode cX0_countLeafElements 42 = .ok (.iload 5, 2) := by decide +kernel
theorem dX0_countLeafElements_44 : decode cX0_countLeafElements 44 = .ok (.invokevirtual 89, 3) := by decide +kernel
theorem dX0_countLeafElements_47 : decode cX0_countLeafElements 47 = .ok (.iload_n 2, 1) := by decide +kernel
theorem dX0_countLeafElements_48 : decode cX0_countLeafElements 48 = .ok (.iconst 1, 1) := by decide +kernel
theorem dX0_countLeafElements_49 : decode cX0_countLeafElements 49 = .ok (.isub, 1) := by decide +kernel
theorem dX0_countLeafElements_50 : decode cX0_countLeafElements 50 = .ok (.invokevirtual 73, 3) := by decide +kernel
theorem dX0_countLeafElements_53 : decode cX0_countLeafElements 53 = .ok (.iadd, 1) := by decide +kernel
theorem dX0_countLeafElements_54 : decode cX0_countLeafElements 54 = .ok (.istore 4, 2) := by decide +kernel
theorem dX0_countLeafElements_56 : decode cX0_countLeafElements 56 = .ok (.iinc 5 1, 3) := by decide +kernel
theorem dX0_countLeafElements_59 : decode cX0_countLeafElements 59 = .ok (.goto (-34), 3) := by decide +kernel
theorem dX0_countLeafElements_62 : decode cX0_countLeafElements 62 = .ok (.iload 4, 2) := by decide +kernel
theorem dX0_countLeafElements_64 : decode cX0_countLeafElements 64 = .ok (.ireturn, 1) := by decide +kernel
theorem dX0_elementsPass_0 : decode cX0_elementsPass 0 = .ok (.iconst 0, 1) := by decide +kernel
theorem dX0_elementsPass_1 : decode cX0_elementsPass 1 = .ok (.istore_n 2, 1) := by decide +kernel
theorem dX0_elementsPass_2 : decode cX0_elementsPass 2 = .ok (.iload_n 2, 1) := by decide +kernel
theorem dX0_elementsPass_3 : decode cX0_elementsPass 3 = .ok (.aload_n 0, 1) := by decide +kernel
theorem dX0_elementsPass_4 : decode cX0_elementsPass 4 = .ok (.getfield 15, 3) := by decide +kernel
theorem dX0_elementsPass_7 : decode cX0_elementsPass 7 = .ok (.getfield 23, 3) := by decide +kernel
theorem dX0_elementsPass_10 : decode cX0_elementsPass 10 = .ok (.iload_n 1, 1) := by decide +kernel
theorem dX0_elementsPass_11 : decode cX0_elementsPass 11 = .ok (.invokevirtual 77, 3) := by decide +kernel
theorem dX0_elementsPass_14 : decode cX0_elementsPass 14 = .ok (.if_icmp .ge 35, 3) := by decide +kernel
theorem dX0_elementsPass_17 : decode cX0_elementsPass 17 = .ok (.aload_n 0, 1) := by decide +kernel
theorem dX0_elementsPass_18 : decode cX0_elementsPass 18 = .ok (.getfield 15, 3) := by decide +kernel
theorem dX0_elementsPass_21 : decode cX0_elementsPass 21 = .ok (.iload_n 1, 1) := by decide +kernel
theorem dX0_elementsPass_22 : decode cX0_elementsPass 22 = .ok (.iload_n 2, 1) := by decide +kernel
theorem dX0_elementsPass_23 : decode cX0_elementsPass 23 = .ok (.invokevirtual 92, 3) := by decide +kernel
theorem dX0_elementsPass_26 : decode cX0_elementsPass 26 = .ok (.aload_n 0, 1) := by decide +kernel
theorem dX0_elementsPass_27 : decode cX0_elementsPass 27 = .ok (.getfield 15, 3) := by decide +kernel
theorem dX0_elementsPass_30 : decode cX0_elementsPass 30 = .ok (.getfield 23, 3) := by decide +kernel
theorem dX0_elementsPass_33 : decode cX0_elementsPass 33 = .ok (.iload_n 1, 1) := by decide +kernel
theorem dX0_elementsPass_34 : decode cX0_elementsPass 34 = .ok (.iload_n 2, 1) := by decide +kernel
theorem dX0_elementsPass_35 : decode cX0_elementsPass 35 = .ok (.invokevirtual 95, 3) := by decide +kernel
theorem dX0_elementsPass_38 : decode cX0_elementsPass 38 = .ok (.if_icmp .eq 5, 3) := by decide +kernel
theorem dX0_elementsPass_41 : decode cX0_elementsPass 41 = .ok (.iconst 0, 1) := by decide +kernel
theorem dX0_elementsPass_42 : decode cX0_elementsPass 42 = .ok (.ireturn, 1) := by decide +kernel
theorem dX0_elementsPass_43 : decode cX0_elementsPass 43 = .ok (.iinc 2 1, 3) := by decide +kernel
theorem dX0_elementsPass_46 : decode cX0_elementsPass 46 = .ok (.goto (-44), 3) := by decide +kernel
theorem dX0_elementsPass_49 : decode cX0_elementsPass 49 = .ok (.iconst 1, 1) := by decide +kernel
theorem dX0_elementsPass_50 : decode cX0_elementsPass 50 = .ok (.ireturn, 1) := by decide +kernel
theorem dX0_referencesPass_0 : decode cX0_referencesPass 0 = .ok (.aload_n 0, 1) := by decide +kernel
theorem dX0_referencesPass_1 : decode cX0_referencesPass 1 = .ok (.getfield 19, 3) := by decide +kernel
theorem dX0_referencesPass_4 : decode cX0_referencesPass 4 = .ok (.iconst (-1), 1) := by decide +kernel
theorem dX0_referencesPass_5 : decode cX0_referencesPass 5 = .ok (.invokevirtual 98, 3) := by decide +kernel
theorem dX0_referencesPass_8 : decode cX0_referencesPass 8 = .ok (.aload_n 0, 1) := by decide +kernel
theorem dX0_referencesPass_9 : decode cX0_referencesPass 9 = .ok (.invokevirtual 104, 3) := by decide +kernel
theorem dX0_referencesPass_12 : decode cX0_referencesPass 12 = .ok (.iconst 0, 1) := by decide +kernel
theorem dX0_referencesPass_13 : decode cX0_referencesPass 13 = .ok (.istore_n 1, 1) := by decide +kernel
theorem dX0_referencesPass_14 : decode cX0_referencesPass 14 = .ok (.iload_n 1, 1) := by decide +kernel
theorem dX0_referencesPass_15 : decode cX0_referencesPass 15 = .ok (.aload_n 0, 1) := by decide +kernel
theorem dX0_referencesPass_16 : decode cX0_referencesPass 16 = .ok (.getfield 15, 3) := by decide +kernel
theorem dX0_referencesPass_19 : decode cX0_referencesPass 19 = .ok (.getfield 53, 3) := by decide +kernel
theorem dX0_referencesPass_22 : decode cX0_referencesPass 22 = .ok (.getfield 57, 3) := by decide +kernel
theorem dX0_referencesPass_25 : decode cX0_referencesPass 25 = .ok (.if_icmp .ge 30, 3) := by decide +kernel
theorem dX0_referencesPass_28 : decode cX0_referencesPass 28 = .ok (.aload_n 0, 1) := by decide +kernel
theorem dX0_referencesPass_29 : decode cX0_referencesPass 29 = .ok (.getfield 9, 3) := by decide +kernel
theorem dX0_referencesPass_32 : decode cX0_referencesPass 32 = .ok (.iload_n 1, 1) := by decide +kernel
theorem dX0_referencesPass_33 : decode cX0_referencesPass 33 = .ok (.invokestatic 107, 3) := by decide +kernel
theorem dX0_referencesPass_36 : decode cX0_referencesPass 36 = .ok (.aload_n 0, 1) := by decide +kernel
theorem dX0_referencesPass_37 : decode cX0_referencesPass 37 = .ok (.getfield 19, 3) := by decide +kernel
theorem dX0_referencesPass_40 : decode cX0_referencesPass 40 = .ok (.iload_n 1, 1) := by decide +kernel
theorem dX0_referencesPass_41 : decode cX0_referencesPass 41 = .ok (.invokevirtual 111, 3) := by decide +kernel
theorem dX0_referencesPass_44 : decode cX0_referencesPass 44 = .ok (.if_icmp .eq 5, 3) := by decide +kernel
theorem dX0_referencesPass_47 : decode cX0_referencesPass 47 = .ok (.iconst 0, 1) := by decide +kernel
theorem dX0_referencesPass_48 : decode cX0_referencesPass 48 = .ok (.ireturn, 1) := by decide +kernel
theorem dX0_referencesPass_49 : decode cX0_referencesPass 49 = .ok (.iinc 1 1, 3) := by decide +kernel
theorem dX0_referencesPass_52 : decode cX0_referencesPass 52 = .ok (.goto (-38), 3) := by decide +kernel
theorem dX0_referencesPass_55 : decode cX0_referencesPass 55 = .ok (.iconst 1, 1) := by decide +kernel
theorem dX0_referencesPass_56 : decode cX0_referencesPass 56 = .ok (.ireturn, 1) := by decide +kernel
theorem dX0_followReferences_0 : decode cX0_followReferences 0 = .ok (.aload_n 0, 1) := by decide +kernel
theorem dX0_followReferences_1 : decode cX0_followReferences 1 = .ok (.getfield 15, 3) := by decide +kernel
theorem dX0_followReferences_4 : decode cX0_followReferences 4 = .ok (.getfield 53, 3) := by decide +kernel
theorem dX0_followReferences_7 : decode cX0_followReferences 7 = .ok (.getfield 57, 3) := by decide +kernel
theorem dX0_followReferences_10 : decode cX0_followReferences 10 = .ok (.iconst 1, 1) := by decide +kernel
theorem dX0_followReferences_11 : decode cX0_followReferences 11 = .ok (.isub, 1) := by decide +kernel
theorem dX0_followReferences_12 : decode cX0_followReferences 12 = .ok (.istore_n 1, 1) := by decide +kernel
theorem dX0_followReferences_13 : decode cX0_followReferences 13 = .ok (.iload_n 1, 1) := by decide +kernel
theorem dX0_followReferences_14 : decode cX0_followReferences 14 = .ok (.ifCond .lt 36, 3) := by decide +kernel
theorem dX0_followReferences_17 : decode cX0_followReferences 17 = .ok (.aload_n 0, 1) := by decide +kernel
theorem dX0_followReferences_18 : decode cX0_followReferences 18 = .ok (.getfield 9, 3) := by decide +kernel
theorem dX0_followReferences_21 : decode cX0_followReferences 21 = .ok (.iload_n 1, 1) := by decide +kernel
theorem dX0_followReferences_22 : decode cX0_followReferences 22 = .ok (.aload_n 0, 1) := by decide +kernel
theorem dX0_followReferences_23 : decode cX0_followReferences 23 = .ok (.getfield 15, 3) := by decide +kernel
theorem dX0_followReferences_26 : decode cX0_followReferences 26 = .ok (.getfield 23, 3) := by decide +kernel
theorem dX0_followReferences_29 : decode cX0_followReferences 29 = .ok (.iload_n 1, 1) := by decide +kernel
theorem dX0_followReferences_30 : decode cX0_followReferences 30 = .ok (.invokevirtual 114, 3) := by decide +kernel
theorem dX0_followReferences_33 : decode cX0_followReferences 33 = .ok (.ifCond .le 7, 3) := by decide +kernel
theorem dX0_followReferences_36 : decode cX0_followReferences 36 = .ok (.iconst 1, 1) := by decide +kernel
theorem dX0_followReferences_37 : decode cX0_followReferences 37 = .ok (.goto 4, 3) := by decide +kernel
theorem dX0_followReferences_40 : decode cX0_followReferences 40 = .ok (.iconst 0, 1) := by decide +kernel
theorem dX0_followReferences_41 : decode cX0_followReferences 41 = .ok (.invokestatic 117, 3) := by decide +kernel
theorem dX0_followReferences_44 : decode cX0_followReferences 44 = .ok (.iinc 1 (-1), 3) := by decide +kernel
theorem dX0_followReferences_47 : decode cX0_followReferences 47 = .ok (.goto (-34), 3) := by decide +kernel
theorem dX0_followReferences_50 : decode cX0_followReferences 50 = .ok (.aload_n 0, 1) := by decide +kernel
theorem dX0_followReferences_51 : decode cX0_followReferences 51 = .ok (.getfield 15, 3) := by decide +kernel
theorem dX0_followReferences_54 : decode cX0_followReferences 54 = .ok (.getfield 53, 3) := by decide +kernel
theorem dX0_followReferences_57 : decode cX0_followReferences 57 = .ok (.getfield 57, 3) := by decide +kernel
theorem dX0_followReferences_60 : decode cX0_followReferences 60 = .ok (.iconst 1, 1) := by decide +kernel
theorem dX0_followReferences_61 : decode cX0_followReferences 61 = .ok (.isub, 1) := by decide +kernel
theorem dX0_followReferences_62 : decode cX0_followReferences 62 = .ok (.istore_n 1, 1) := by decide +kernel
theorem dX0_followReferences_63 : decode cX0_followReferences 63 = .ok (.iload_n 1, 1) := by decide +kernel
theorem dX0_followReferences_64 : decode cX0_followReferences 64 = .ok (.ifCond .lt 39, 3) := by decide +kernel
theorem dX0_followReferences_67 : decode cX0_followReferences 67 = .ok (.aload_n 0, 1) := by decide +kernel
theorem dX0_followReferences_68 : decode cX0_followReferences 68 = .ok (.getfield 15, 3) := by decide +kernel
theorem dX0_followReferences_71 : decode cX0_followReferences 71 = .ok (.getfield 53, 3) := by decide +kernel
theorem dX0_followReferences_74 : decode cX0_followReferences 74 = .ok (.iload_n 1, 1) := by decide +kernel
theorem dX0_followReferences_75 : decode cX0_followReferences 75 = .ok (.invokevirtual 83, 3) := by decide +kernel
theorem dX0_followReferences_78 : decode cX0_followReferences 78 = .ok (.ifCond .eq 19, 3) := by decide +kernel
theorem dX0_followReferences_81 : decode cX0_followReferences 81 = .ok (.aload_n 0, 1) := by decide +kernel
theorem dX0_followReferences_82 : decode cX0_followReferences 82 = .ok (.getfield 9, 3) := by decide +kernel
theorem dX0_followReferences_85 : decode cX0_followReferences 85 = .ok (.iload_n 1, 1) := by decide +kernel
theorem dX0_followReferences_86 : decode cX0_followReferences 86 = .ok (.invokestatic 107, 3) := by decide +kernel
theorem dX0_followReferences_89 : decode cX0_followReferences 89 = .ok (.ifCond .eq 8, 3) := by decide +kernel
theorem dX0_followReferences_92 : decode cX0_followReferences 92 = .ok (.aload_n 0, 1) := by decide +kernel
theorem dX0_followReferences_93 : decode cX0_followReferences 93 = .ok (.iload_n 1, 1) := by decide +kernel
theorem dX0_followReferences_94 : decode cX0_followReferences 94 = .ok (.invokevirtual 121, 3) := by decide +kernel
theorem dX0_followReferences_97 : decode cX0_followReferences 97 = .ok (.iinc 1 (-1), 3) := by decide +kernel
theorem dX0_followReferences_100 : decode cX0_followReferences 100 = .ok (.goto (-37), 3) := by decide +kernel
theorem dX0_followReferences_103 : decode cX0_followReferences 103 = .ok (.return_, 1) := by decide +kernel
theorem dX0_holdChildren_0 : decode cX0_holdChildren 0 = .ok (.iconst 0, 1) := by decide +kernel
theorem dX0_holdChildren_1 : decode cX0_holdChildren 1 = .ok (.istore_n 2, 1) := by decide +kernel
theorem dX0_holdChildren_2 : decode cX0_holdChildren 2 = .ok (.iload_n 2, 1) := by decide +kernel
theorem dX0_holdChildren_3 : decode cX0_holdChildren 3 = .ok (.aload_n 0, 1) := by decide +kernel
theorem dX0_holdChildren_4 : decode cX0_holdChildren 4 = .ok (.getfield 15, 3) := by decide +kernel
theorem dX0_holdChildren_7 : decode cX0_holdChildren 7 = .ok (.getfield 53, 3) := by decide +kernel
theorem dX0_holdChildren_10 : decode cX0_holdChildren 10 = .ok (.iload_n 1, 1) := by decide +kernel
theorem dX0_holdChildren_11 : decode cX0_holdChildren 11 = .ok (.invokevirtual 80, 3) := by decide +kernel
theorem dX0_holdChildren_14 : decode cX0_holdChildren 14 = .ok (.if_icmp .ge 29, 3) := by decide +kernel
theorem dX0_holdChildren_17 : decode cX0_holdChildren 17 = .ok (.aload_n 0, 1) := by decide +kernel
theorem dX0_holdChildren_18 : decode cX0_holdChildren 18 = .ok (.getfield 9, 3) := by decide +kernel
theorem dX0_holdChildren_21 : decode cX0_holdChildren 21 = .ok (.aload_n 0, 1) := by decide +kernel
theorem dX0_holdChildren_22 : decode cX0_holdChildren 22 = .ok (.getfield 15, 3) := by decide +kernel
theorem dX0_holdChildren_25 : decode cX0_holdChildren 25 = .ok (.getfield 53, 3) := by decide +kernel
theorem dX0_holdChildren_28 : decode cX0_holdChildren 28 = .ok (.iload_n 1, 1) := by decide +kernel
theorem dX0_holdChildren_29 : decode cX0_holdChildren 29 = .ok (.iload_n 2, 1) := by decide +kernel
theorem dX0_holdChildren_30 : decode cX0_holdChildren 30 = .ok (.invokevirtual 124, 3) := by decide +kernel
theorem dX0_holdChildren_33 : decode cX0_holdChildren 33 = .ok (.iconst 1, 1) := by decide +kernel
theorem dX0_holdChildren_34 : decode cX0_holdChildren 34 = .ok (.invokestatic 117, 3) := by decide +kernel
theorem dX0_holdChildren_37 : decode cX0_holdChildren 37 = .ok (.iinc 2 1, 3) := by decide +kernel
theorem dX0_holdChildren_40 : decode cX0_holdChildren 40 = .ok (.goto (-38), 3) := by decide +kernel
theorem dX0_holdChildren_43 : decode cX0_holdChildren 43 = .ok (.return_, 1) := by decide +kernel
theorem dX1_init_0 : decode cX1_init 0 = .ok (.aload_n 0, 1) := by decide +kernel
theorem dX1_init_1 : decode cX1_init 1 = .ok (.invokespecial 3, 3) := by decide +kernel
theorem dX1_init_4 : decode cX1_init 4 = .ok (.aload_n 0, 1) := by decide +kernel
theorem dX1_init_5 : decode cX1_init 5 = .ok (.bipush 8, 2) := by decide +kernel
theorem dX1_init_7 : decode cX1_init 7 = .ok (.newarray .int, 2) := by decide +kernel
theorem dX1_init_9 : decode cX1_init 9 = .ok (.putfield 9, 3) := by decide +kernel
theorem dX1_init_12 : decode cX1_init 12 = .ok (.aload_n 0, 1) := by decide +kernel
theorem dX1_init_13 : decode cX1_init 13 = .ok (.bipush 8, 2) := by decide +kernel
theorem dX1_init_15 : decode cX1_init 15 = .ok (.newarray .int, 2) := by decide +kernel
theorem dX1_init_17 : decode cX1_init 17 = .ok (.putfield 15, 3) := by decide +kernel
theorem dX1_init_20 : decode cX1_init 20 = .ok (.aload_n 0, 1) := by decide +kernel
theorem dX1_init_21 : decode cX1_init 21 = .ok (.sipush 320, 3) := by decide +kernel
theorem dX1_init_24 : decode cX1_init 24 = .ok (.newarray .boolean, 2) := by decide +kernel
theorem dX1_init_26 : decode cX1_init 26 = .ok (.putfield 18, 3) := by decide +kernel
theorem dX1_init_29 : decode cX1_init 29 = .ok (.aload_n 0, 1) := by decide +kernel
theorem dX1_init_30 : decode cX1_init 30 = .ok (.sipush 1104, 3) := by decide +kernel
theorem dX1_init_33 : decode cX1_init 33 = .ok (.newarray .boolean, 2) := by decide +kernel
theorem dX1_init_35 : decode cX1_init 35 = .ok (.putfield 22, 3) := by decide +kernel
theorem dX1_init_38 : decode cX1_init 38 = .ok (.return_, 1) := by decide +kernel
theorem dX1_forget_0 : decode cX1_forget 0 = .ok (.aload_n 0, 1) := by decide +kernel
theorem dX1_forget_1 : decode cX1_forget 1 = .ok (.iconst 0, 1) := by decide +kernel
theorem dX1_forget_2 : decode cX1_forget 2 = .ok (.putfield 25, 3) := by decide +kernel
theorem dX1_forget_5 : decode cX1_forget 5 = .ok (.return_, 1) := by decide +kernel
theorem dX1_keep_0 : decode cX1_keep 0 = .ok (.aload_n 0, 1) := by decide +kernel
theorem dX1_keep_1 : decode cX1_keep 1 = .ok (.getfield 9, 3) := by decide +kernel
theorem dX1_keep_4 : decode cX1_keep 4 = .ok (.aload_n 0, 1) := by decide +kernel
theorem dX1_keep_5 : decode cX1_keep 5 = .ok (.getfield 29, 3) := by decide +kernel
theorem dX1_keep_8 : decode cX1_keep 8 = .ok (.aload_n 1, 1) := by decide +kernel
theorem dX1_keep_9 : decode cX1_keep 9 = .ok (.getfield 32, 3) := by decide +kernel
theorem dX1_keep_12 : decode cX1_keep 12 = .ok (.getfield 38, 3) := by decide +kernel
theorem dX1_keep_15 : decode cX1_keep 15 = .ok (.invokestatic 41, 3) := by decide +kernel
theorem dX1_keep_18 : decode cX1_keep 18 = .ok (.aload_n 0, 1) := by decide +kernel
theorem dX1_keep_19 : decode cX1_keep 19 = .ok (.getfield 15, 3) := by decide +kernel
theorem dX1_keep_22 : decode cX1_keep 22 = .ok (.aload_n 0, 1) := by decide +kernel
theorem dX1_keep_23 : decode cX1_keep 23 = .ok (.getfield 29, 3) := by decide +kernel
theorem dX1_keep_26 : decode cX1_keep 26 = .ok (.aload_n 1, 1) := by decide +kernel
theorem dX1_keep_27 : decode cX1_keep 27 = .ok (.getfield 45, 3) := by decide +kernel
theorem dX1_keep_30 : decode cX1_keep 30 = .ok (.getfield 49, 3) := by decide +kernel
theorem dX1_keep_33 : decode cX1_keep 33 = .ok (.invokestatic 41, 3) := by decide +kernel
theorem dX1_keep_36 : decode cX1_keep 36 = .ok (.aload_n 1, 1) := by decide +kernel
theorem dX1_keep_37 : decode cX1_keep 37 = .ok (.getfield 32, 3) := by decide +kernel
theorem dX1_keep_40 : decode cX1_keep 40 = .ok (.getfield 54, 3) := by decide +kernel
theorem dX1_keep_43 : decode cX1_keep 43 = .ok (.iconst 0, 1) := by decide +kernel
theorem dX1_keep_44 : decode cX1_keep 44 = .ok (.aload_n 0, 1) := by decide +kernel
theorem dX1_keep_45 : decode cX1_keep 45 = .ok (.getfield 18, 3) := by decide +kernel
theorem dX1_keep_48 : decode cX1_keep 48 = .ok (.aload_n 0, 1) := by decide +kernel
theorem dX1_keep_49 : decode cX1_keep 49 = .ok (.getfield 29, 3) := by decide +kernel
theorem dX1_keep_52 : decode cX1_keep 52 = .ok (.bipush 40, 2) := by decide +kernel
theorem dX1_keep_54 : decode cX1_keep 54 = .ok (.imul, 1) := by decide +kernel
theorem dX1_keep_55 : decode cX1_keep 55 = .ok (.bipush 40, 2) := by decide +kernel
theorem dX1_keep_57 : decode cX1_keep 57 = .ok (.invokestatic 55, 3) := by decide +kernel
theorem dX1_keep_60 : decode cX1_keep 60 = .ok (.aload_n 1, 1) := by decide +kernel
theorem dX1_keep_61 : decode cX1_keep 61 = .ok (.getfield 45, 3) := by decide +kernel
theorem dX1_keep_64 : decode cX1_keep 64 = .ok (.getfield 59, 3) := by decide +kernel
theorem dX1_keep_67 : decode cX1_keep 67 = .ok (.iconst 0, 1) := by decide +kernel
theorem dX1_keep_68 : decode cX1_keep 68 = .ok (.aload_n 0, 1) := by decide +kernel
theorem dX1_keep_69 : decode cX1_keep 69 = .ok (.getfield 22, 3) := by decide +kernel
theorem dX1_keep_72 : decode cX1_keep 72 = .ok (.aload_n 0, 1) := by decide +kernel
theorem dX1_keep_73 : decode cX1_keep 73 = .ok (.getfield 29, 3) := by decide +kernel
theorem dX1_keep_76 : decode cX1_keep 76 = .ok (.sipush 138, 3) := by decide +kernel
theorem dX1_keep_79 : decode cX1_keep 79 = .ok (.imul, 1) := by decide +kernel
theorem dX1_keep_80 : decode cX1_keep 80 = .ok (.sipush 138, 3) := by decide +kernel
theorem dX1_keep_83 : decode cX1_keep 83 = .ok (.invokestatic 55, 3) := by decide +kernel
theorem dX1_keep_86 : decode cX1_keep 86 = .ok (.aload_n 0, 1) := by decide +kernel
theorem dX1_keep_87 : decode cX1_keep 87 = .ok (.aload_n 0, 1) := by decide +kernel
theorem dX1_keep_88 : decode cX1_keep 88 = .ok (.getfield 29, 3) := by decide +kernel
theorem dX1_keep_91 : decode cX1_keep 91 = .ok (.iconst 1, 1) := by decide +kernel
theorem dX1_keep_92 : decode cX1_keep 92 = .ok (.iadd, 1) := by decide +kernel
theorem dX1_keep_93 : decode cX1_keep 93 = .ok (.bipush 8, 2) := by decide +kernel
theorem dX1_keep_95 : decode cX1_keep 95 = .ok (.irem, 1) := by decide +kernel
theorem dX1_keep_96 : decode cX1_keep 96 = .ok (.putfield 29, 3) := by decide +kernel
theorem dX1_keep_99 : decode cX1_keep 99 = .ok (.aload_n 0, 1) := by decide +kernel
theorem dX1_keep_100 : decode cX1_keep 100 = .ok (.aload_n 0, 1) := by decide +kernel
theorem dX1_keep_101 : decode cX1_keep 101 = .ok (.getfield 25, 3) := by decide +kernel
theorem dX1_keep_104 : decode cX1_keep 104 = .ok (.iconst 1, 1) := by decide +kernel
theorem dX1_keep_105 : decode cX1_keep 105 = .ok (.iadd, 1) := by decide +kernel
theorem dX1_keep_106 : decode cX1_keep 106 = .ok (.bipush 8, 2) := by decide +kernel
theorem dX1_keep_108 : decode cX1_keep 108 = .ok (.invokestatic 60, 3) := by decide +kernel
theorem dX1_keep_111 : decode cX1_keep 111 = .ok (.putfield 25, 3) := by decide +kernel
theorem dX1_keep_114 : decode cX1_keep 114 = .ok (.return_, 1) := by decide +kernel
theorem dX1_goBack_0 : decode cX1_goBack 0 = .ok (.aload_n 0, 1) := by decide +kernel
theorem dX1_goBack_1 : decode cX1_goBack 1 = .ok (.aload_n 0, 1) := by decide +kernel
theorem dX1_goBack_2 : decode cX1_goBack 2 = .ok (.getfield 29, 3) := by decide +kernel
theorem dX1_goBack_5 : decode cX1_goBack 5 = .ok (.bipush 8, 2) := by decide +kernel
theorem dX1_goBack_7 : decode cX1_goBack 7 = .ok (.iadd, 1) := by decide +kernel
theorem dX1_goBack_8 : decode cX1_goBack 8 = .ok (.iconst 1, 1) := by decide +kernel
theorem dX1_goBack_9 : decode cX1_goBack 9 = .ok (.isub, 1) := by decide +kernel
theorem dX1_goBack_10 : decode cX1_goBack 10 = .ok (.bipush 8, 2) := by decide +kernel
theorem dX1_goBack_12 : decode cX1_goBack 12 = .ok (.irem, 1) := by decide +kernel
theorem dX1_goBack_13 : decode cX1_goBack 13 = .ok (.putfield 29, 3) := by decide +kernel
theorem dX1_goBack_16 : decode cX1_goBack 16 = .ok (.aload_n 0, 1) := by decide +kernel
theorem dX1_goBack_17 : decode cX1_goBack 17 = .ok (.aload_n 0, 1) := by decide +kernel
theorem dX1_goBack_18 : decode cX1_goBack 18 = .ok (.getfield 25, 3) := by decide +kernel
theorem dX1_goBack_21 : decode cX1_goBack 21 = .ok (.iconst 1, 1) := by decide +kernel
theorem dX1_goBack_22 : decode cX1_goBack 22 = .ok (.isub, 1) := by decide +kernel
theorem dX1_goBack_23 : decode cX1_goBack 23 = .ok (.iconst 0, 1) := by decide +kernel
theorem dX1_goBack_24 : decode cX1_goBack 24 = .ok (.invokestatic 66, 3) := by decide +kernel
theorem dX1_goBack_27 : decode cX1_goBack 27 = .ok (.putfield 25, 3) := by decide +kernel
theorem dX1_goBack_30 : decode cX1_goBack 30 = .ok (.aload_n 1, 1) := by decide +kernel
theorem dX1_goBack_31 : decode cX1_goBack 31 = .ok (.getfield 32, 3) := by decide +kernel
theorem dX1_goBack_34 : decode cX1_goBack 34 = .ok (.aload_n 0, 1) := by decide +kernel
theorem dX1_goBack_35 : decode cX1_goBack 35 = .ok (.getfield 9, 3) := by decide +kernel
theorem dX1_goBack_38 : decode cX1_goBack 38 = .ok (.aload_n 0, 1) := by decide +kernel
theorem dX1_goBack_39 : decode cX1_goBack 39 = .ok (.getfield 29, 3) := by decide +kernel
theorem dX1_goBack_42 : decode cX1_goBack 42 = .ok (.invokestatic 69, 3) := by decide +kernel
theorem dX1_goBack_45 : decode cX1_goBack 45 = .ok (.putfield 38, 3) := by decide +kernel
theorem dX1_goBack_48 : decode cX1_goBack 48 = .ok (.aload_n 1, 1) := by decide +kernel
theorem dX1_goBack_49 : decode cX1_goBack 49 = .ok (.getfield 45, 3) := by decide +kernel
theorem dX1_goBack_52 : decode cX1_goBack 52 = .ok (.aload_n 0, 1) := by decide +kernel
theorem dX1_goBack_53 : decode cX1_goBack 53 = .ok (.getfield 15, 3) := by decide +kernel
theorem dX1_goBack_56 : decode cX1_goBack 56 = .ok (.aload_n 0, 1) := by decide +kernel
theorem dX1_goBack_57 : decode cX1_goBack 57 = .ok (.getfield 29, 3) := by decide +kernel
theorem dX1_goBack_60 : decode cX1_goBack 60 = .ok (.invokestatic 69, 3) := by decide +kernel
theorem dX1_goBack_63 : decode cX1_goBack 63 = .ok (.putfield 49, 3) := by decide +kernel
theorem dX1_goBack_66 : decode cX1_goBack 66 = .ok (.aload_n 0, 1) := by decide +kernel
theorem dX1_goBack_67 : decode cX1_goBack 67 = .ok (.getfield 18, 3) := by decide +kernel
theorem dX1_goBack_70 : decode cX1_goBack 70 = .ok (.aload_n 0, 1) := by decide +kernel
theorem dX1_goBack_71 : decode cX1_goBack 71 = .ok (.getfield 29, 3) := by decide +kernel
theorem dX1_goBack_74 : decode cX1_goBack 74 = .ok (.bipush 40, 2) := by decide +kernel
theorem dX1_goBack_76 : decode cX1_goBack 76 = .ok (.imul, 1) := by decide +kernel
theorem dX1_goBack_77 : decode cX1_goBack 77 = .ok (.aload_n 1, 1) := by decide +kernel
theorem dX1_goBack_78 : decode cX1_goBack 78 = .ok (.getfield 32, 3) := by decide +kernel
theorem dX1_goBack_81 : decode cX1_goBack 81 = .ok (.getfield 54, 3) := by decide +kernel
theorem dX1_goBack_84 : decode cX1_goBack 84 = .ok (.iconst 0, 1) := by decide +kernel
theorem dX1_goBack_85 : decode cX1_goBack 85 = .ok (.bipush 40, 2) := by decide +kernel
theorem dX1_goBack_87 : decode cX1_goBack 87 = .ok (.invokestatic 55, 3) := by decide +kernel
theorem dX1_goBack_90 : decode cX1_goBack 90 = .ok (.aload_n 0, 1) := by decide +kernel
theorem dX1_goBack_91 : decode cX1_goBack 91 = .ok (.getfield 22, 3) := by decide +kernel
theorem dX1_goBack_94 : decode cX1_goBack 94 = .ok (.aload_n 0, 1) := by decide +kernel
theorem dX1_goBack_95 : decode cX1_goBack 95 = .ok (.getfield 29, 3) := by decide +kernel
theorem dX1_goBack_98 : decode cX1_goBack 98 = .ok (.sipush 138, 3) := by decide +kernel
theorem dX1_goBack_101 : decode cX1_goBack 101 = .ok (.imul, 1) := by decide +kernel
theorem dX1_goBack_102 : decode cX1_goBack 102 = .ok (.aload_n 1, 1) := by decide +kernel
theorem dX1_goBack_103 : decode cX1_goBack 103 = .ok (.getfield 45, 3) := by decide +kernel
theorem dX1_goBack_106 : decode cX1_goBack 106 = .ok (.getfield 59, 3) := by decide +kernel
theorem dX1_goBack_109 : decode cX1_goBack 109 = .ok (.iconst 0, 1) := by decide +kernel
theorem dX1_goBack_110 : decode cX1_goBack 110 = .ok (.sipush 138, 3) := by decide +kernel
theorem dX1_goBack_113 : decode cX1_goBack 113 = .ok (.invokestatic 55, 3) := by decide +kernel
theorem dX1_goBack_116 : decode cX1_goBack 116 = .ok (.return_, 1) := by decide +kernel
theorem dX2_init_0 : decode cX2_init 0 = .ok (.aload_n 0, 1) := by decide +kernel
theorem dX2_init_1 : decode cX2_init 1 = .ok (.invokespecial 3, 3) := by decide +kernel
theorem dX2_init_4 : decode cX2_init 4 = .ok (.aload_n 0, 1) := by decide +kernel
theorem dX2_init_5 : decode cX2_init 5 = .ok (.sipush 600, 3) := by decide +kernel
theorem dX2_init_8 : decode cX2_init 8 = .ok (.newarray .int, 2) := by decide +kernel
theorem dX2_init_10 : decode cX2_init 10 = .ok (.putfield 9, 3) := by decide +kernel
theorem dX2_init_13 : decode cX2_init 13 = .ok (.return_, 1) := by decide +kernel
theorem dX2_hasRoomForBlock_0 : decode cX2_hasRoomForBlock 0 = .ok (.aload_n 0, 1) := by decide +kernel
theorem dX2_hasRoomForBlock_1 : decode cX2_hasRoomForBlock 1 = .ok (.getfield 15, 3) := by decide +kernel
theorem dX2_hasRoomForBlock_4 : decode cX2_hasRoomForBlock 4 = .ok (.bipush 20, 2) := by decide +kernel
theorem dX2_hasRoomForBlock_6 : decode cX2_hasRoomForBlock 6 = .ok (.iadd, 1) := by decide +kernel
theorem dX2_hasRoomForBlock_7 : decode cX2_hasRoomForBlock 7 = .ok (.sipush 600, 3) := by decide +kernel
theorem dX2_hasRoomForBlock_10 : decode cX2_hasRoomForBlock 10 = .ok (.if_icmp .gt 7, 3) := by decide +kernel
theorem dX2_hasRoomForBlock_13 : decode cX2_hasRoomForBlock 13 = .ok (.iconst 1, 1) := by decide +kernel
theorem dX2_hasRoomForBlock_14 : decode cX2_hasRoomForBlock 14 = .ok (.goto 4, 3) := by decide +kernel
theorem dX2_hasRoomForBlock_17 : decode cX2_hasRoomForBlock 17 = .ok (.iconst 0, 1) := by decide +kernel
theorem dX2_hasRoomForBlock_18 : decode cX2_hasRoomForBlock 18 = .ok (.ireturn, 1) := by decide +kernel
theorem dX2_addWord_0 : decode cX2_addWord 0 = .ok (.aload_n 0, 1) := by decide +kernel
theorem dX2_addWord_1 : decode cX2_addWord 1 = .ok (.iload_n 1, 1) := by decide +kernel
theorem dX2_addWord_2 : decode cX2_addWord 2 = .ok (.bipush 24, 2) := by decide +kernel
theorem dX2_addWord_4 : decode cX2_addWord 4 = .ok (.iushr, 1) := by decide +kernel
theorem dX2_addWord_5 : decode cX2_addWord 5 = .ok (.invokevirtual 19, 3) := by decide +kernel
theorem dX2_addWord_8 : decode cX2_addWord 8 = .ok (.aload_n 0, 1) := by decide +kernel
theorem dX2_addWord_9 : decode cX2_addWord 9 = .ok (.iload_n 1, 1) := by decide +kernel
theorem dX2_addWord_10 : decode cX2_addWord 10 = .ok (.bipush 16, 2) := by decide +kernel
theorem dX2_addWord_12 : decode cX2_addWord 12 = .ok (.iushr, 1) := by decide +kernel
theorem dX2_addWord_13 : decode cX2_addWord 13 = .ok (.sipush 255, 3) := by decide +kernel
theorem dX2_addWord_16 : decode cX2_addWord 16 = .ok (.iand, 1) := by decide +kernel
theorem dX2_addWord_17 : decode cX2_addWord 17 = .ok (.invokevirtual 19, 3) := by decide +kernel
theorem dX2_addWord_20 : decode cX2_addWord 20 = .ok (.aload_n 0, 1) := by decide +kernel
theorem dX2_addWord_21 : decode cX2_addWord 21 = .ok (.iload_n 1, 1) := by decide +kernel
theorem dX2_addWord_22 : decode cX2_addWord 22 = .ok (.bipush 8, 2) := by decide +kernel
theorem dX2_addWord_24 : decode cX2_addWord 24 = .ok (.iushr, 1) := by decide +kernel
theorem dX2_addWord_25 : decode cX2_addWord 25 = .ok (.sipush 255, 3) := by decide +kernel
theorem dX2_addWord_28 : decode cX2_addWord 28 = .ok (.iand, 1) := by decide +kernel
theorem dX2_addWord_29 : decode cX2_addWord 29 = .ok (.invokevirtual 19, 3) := by decide +kernel
theorem dX2_addWord_32 : decode cX2_addWord 32 = .ok (.aload_n 0, 1) := by decide +kernel
theorem dX2_addWord_33 : decode cX2_addWord 33 = .ok (.iload_n 1, 1) := by decide +kernel
theorem dX2_addWord_34 : decode cX2_addWord 34 = .ok (.sipush 255, 3) := by decide +kernel
theorem dX2_addWord_37 : decode cX2_addWord 37 = .ok (.iand, 1) := by decide +kernel
theorem dX2_addWord_38 : decode cX2_addWord 38 = .ok (.invokevirtual 19, 3) := by decide +kernel
theorem dX2_addWord_41 : decode cX2_addWord 41 = .ok (.return_, 1) := by decide +kernel
theorem dX2_addByte_0 : decode cX2_addByte 0 = .ok (.aload_n 0, 1) := by decide +kernel
theorem dX2_addByte_1 : decode cX2_addByte 1 = .ok (.getfield 9, 3) := by decide +kernel
theorem dX2_addByte_4 : decode cX2_addByte 4 = .ok (.aload_n 0, 1) := by decide +kernel
theorem dX2_addByte_5 : decode cX2_addByte 5 = .ok (.getfield 15, 3) := by decide +kernel
theorem dX2_addByte_8 : decode cX2_addByte 8 = .ok (.iload_n 1, 1) := by decide +kernel
theorem dX2_addByte_9 : decode cX2_addByte 9 = .ok (.invokestatic 23, 3) := by decide +kernel
theorem dX2_addByte_12 : decode cX2_addByte 12 = .ok (.aload_n 0, 1) := by decide +kernel
theorem dX2_addByte_13 : decode cX2_addByte 13 = .ok (.dup, 1) := by decide +kernel
theorem dX2_addByte_14 : decode cX2_addByte 14 = .ok (.getfield 15, 3) := by decide +kernel
theorem dX2_addByte_17 : decode cX2_addByte 17 = .ok (.iconst 1, 1) := by decide +kernel
theorem dX2_addByte_18 : decode cX2_addByte 18 = .ok (.iadd, 1) := by decide +kernel
theorem dX2_addByte_19 : decode cX2_addByte 19 = .ok (.putfield 15, 3) := by decide +kernel
theorem dX2_addByte_22 : decode cX2_addByte 22 = .ok (.return_, 1) := by decide +kernel
theorem dX2_byteAt_0 : decode cX2_byteAt 0 = .ok (.iload_n 1, 1) := by decide +kernel
theorem dX2_byteAt_1 : decode cX2_byteAt 1 = .ok (.ifCond .lt 29, 3) := by decide +kernel
theorem dX2_byteAt_4 : decode cX2_byteAt 4 = .ok (.iload_n 1, 1) := by decide +kernel
theorem dX2_byteAt_5 : decode cX2_byteAt 5 = .ok (.aload_n 0, 1) := by decide +kernel
theorem dX2_byteAt_6 : decode cX2_byteAt 6 = .ok (.getfield 15, 3) := by decide +kernel
theorem dX2_byteAt_9 : decode cX2_byteAt 9 = .ok (.if_icmp .ge 21, 3) := by decide +kernel
theorem dX2_byteAt_12 : decode cX2_byteAt 12 = .ok (.iload_n 1, 1) := by decide +kernel
theorem dX2_byteAt_13 : decode cX2_byteAt 13 = .ok (.aload_n 0, 1) := by decide +kernel
theorem dX2_byteAt_14 : decode cX2_byteAt 14 = .ok (.getfield 9, 3) := by decide +kernel
theorem dX2_byteAt_17 : decode cX2_byteAt 17 = .ok (.arraylength, 1) := by decide +kernel
theorem dX2_byteAt_18 : decode cX2_byteAt 18 = .ok (.if_icmp .ge 12, 3) := by decide +kernel
theorem dX2_byteAt_21 : decode cX2_byteAt 21 = .ok (.aload_n 0, 1) := by decide +kernel
theorem dX2_byteAt_22 : decode cX2_byteAt 22 = .ok (.getfield 9, 3) := by decide +kernel
theorem dX2_byteAt_25 : decode cX2_byteAt 25 = .ok (.iload_n 1, 1) := by decide +kernel
theorem dX2_byteAt_26 : decode cX2_byteAt 26 = .ok (.iaload, 1) := by decide +kernel
theorem dX2_byteAt_27 : decode cX2_byteAt 27 = .ok (.goto 4, 3) := by decide +kernel
theorem dX2_byteAt_30 : decode cX2_byteAt 30 = .ok (.iconst (-1), 1) := by decide +kernel
theorem dX2_byteAt_31 : decode cX2_byteAt 31 = .ok (.ireturn, 1) := by decide +kernel
theorem dX3_init_0 : decode cX3_init 0 = .ok (.aload_n 0, 1) := by decide +kernel
theorem dX3_init_1 : decode cX3_init 1 = .ok (.invokespecial 3, 3) := by decide +kernel
theorem dX3_init_4 : decode cX3_init 4 = .ok (.aload_n 0, 1) := by decide +kernel
theorem dX3_init_5 : decode cX3_init 5 = .ok (.sipush 138, 3) := by decide +kernel
theorem dX3_init_8 : decode cX3_init 8 = .ok (.newarray .int, 2) := by decide +kernel
theorem dX3_init_10 : decode cX3_init 10 = .ok (.putfield 9, 3) := by decide +kernel
theorem dX3_init_13 : decode cX3_init 13 = .ok (.aload_n 0, 1) := by decide +kernel
theorem dX3_init_14 : decode cX3_init 14 = .ok (.sipush 138, 3) := by decide +kernel
theorem dX3_init_17 : decode cX3_init 17 = .ok (.newarray .int, 2) := by decide +kernel
theorem dX3_init_19 : decode cX3_init 19 = .ok (.putfield 15, 3) := by decide +kernel
theorem dX3_init_22 : decode cX3_init 22 = .ok (.aload_n 0, 1) := by decide +kernel
theorem dX3_init_23 : decode cX3_init 23 = .ok (.sipush 552, 3) := by decide +kernel
theorem dX3_init_26 : decode cX3_init 26 = .ok (.newarray .int, 2) := by decide +kernel
theorem dX3_init_28 : decode cX3_init 28 = .ok (.putfield 18, 3) := by decide +kernel
theorem dX3_init_31 : decode cX3_init 31 = .ok (.aload_n 0, 1) := by decide +kernel
theorem dX3_init_32 : decode cX3_init 32 = .ok (.sipush 138, 3) := by decide +kernel
theorem dX3_init_35 : decode cX3_init 35 = .ok (.newarray .boolean, 2) := by decide +kernel
theorem dX3_init_37 : decode cX3_init 37 = .ok (.putfield 21, 3) := by decide +kernel
theorem dX3_init_40 : decode cX3_init 40 = .ok (.return_, 1) := by decide +kernel
theorem dX3_copyFrom_0 : decode cX3_copyFrom 0 = .ok (.aload_n 0, 1) := by decide +kernel
theorem dX3_copyFrom_1 : decode cX3_copyFrom 1 = .ok (.aload_n 1, 1) := by decide +kernel
theorem dX3_copyFrom_2 : decode cX3_copyFrom 2 = .ok (.getfield 25, 3) := by decide +kernel
theorem dX3_copyFrom_5 : decode cX3_copyFrom 5 = .ok (.putfield 25, 3) := by decide +kernel
theorem dX3_copyFrom_8 : decode cX3_copyFrom 8 = .ok (.aload_n 1, 1) := by decide +kernel
theorem dX3_copyFrom_9 : decode cX3_copyFrom 9 = .ok (.getfield 9, 3) := by decide +kernel
theorem dX3_copyFrom_12 : decode cX3_copyFrom 12 = .ok (.aload_n 0, 1) := by decide +kernel
theorem dX3_copyFrom_13 : decode cX3_copyFrom 13 = .ok (.getfield 9, 3) := by decide +kernel
theorem dX3_copyFrom_16 : decode cX3_copyFrom 16 = .ok (.invokestatic 29, 3) := by decide +kernel
theorem dX3_copyFrom_19 : decode cX3_copyFrom 19 = .ok (.aload_n 1, 1) := by decide +kernel
theorem dX3_copyFrom_20 : decode cX3_copyFrom 20 = .ok (.getfield 15, 3) := by decide +kernel
theorem dX3_copyFrom_23 : decode cX3_copyFrom 23 = .ok (.aload_n 0, 1) := by decide +kernel
theorem dX3_copyFrom_24 : decode cX3_copyFrom 24 = .ok (.getfield 15, 3) := by decide +kernel
theorem dX3_copyFrom_27 : decode cX3_copyFrom 27 = .ok (.invokestatic 29, 3) := by decide +kernel
theorem dX3_copyFrom_30 : decode cX3_copyFrom 30 = .ok (.aload_n 1, 1) := by decide +kernel
theorem dX3_copyFrom_31 : decode cX3_copyFrom 31 = .ok (.getfield 18, 3) := by decide +kernel
theorem dX3_copyFrom_34 : decode cX3_copyFrom 34 = .ok (.aload_n 0, 1) := by decide +kernel
theorem dX3_copyFrom_35 : decode cX3_copyFrom 35 = .ok (.getfield 18, 3) := by decide +kernel
theorem dX3_copyFrom_38 : decode cX3_copyFrom 38 = .ok (.invokestatic 29, 3) := by decide +kernel
theorem dX3_copyFrom_41 : decode cX3_copyFrom 41 = .ok (.aload_n 1, 1) := by decide +kernel
theorem dX3_copyFrom_42 : decode cX3_copyFrom 42 = .ok (.getfield 21, 3) := by decide +kernel
theorem dX3_copyFrom_45 : decode cX3_copyFrom 45 = .ok (.iconst 0, 1) := by decide +kernel
theorem dX3_copyFrom_46 : decode cX3_copyFrom 46 = .ok (.aload_n 0, 1) := by decide +kernel
theorem dX3_copyFrom_47 : decode cX3_copyFrom 47 = .ok (.getfield 21, 3) := by decide +kernel
theorem dX3_copyFrom_50 : decode cX3_copyFrom 50 = .ok (.iconst 0, 1) := by decide +kernel
theorem dX3_copyFrom_51 : decode cX3_copyFrom 51 = .ok (.sipush 138, 3) := by decide +kernel
theorem dX3_copyFrom_54 : decode cX3_copyFrom 54 = .ok (.invokestatic 33, 3) := by decide +kernel
theorem dX3_copyFrom_57 : decode cX3_copyFrom 57 = .ok (.return_, 1) := by decide +kernel
theorem dX3_isStored_0 : decode cX3_isStored 0 = .ok (.iload_n 1, 1) := by decide +kernel
theorem dX3_isStored_1 : decode cX3_isStored 1 = .ok (.ifCond .lt 26, 3) := by decide +kernel
theorem dX3_isStored_4 : decode cX3_isStored 4 = .ok (.iload_n 1, 1) := by decide +kernel
theorem dX3_isStored_5 : decode cX3_isStored 5 = .ok (.aload_n 0, 1) := by decide +kernel
theorem dX3_isStored_6 : decode cX3_isStored 6 = .ok (.getfield 25, 3) := by decide +kernel
theorem dX3_isStored_9 : decode cX3_isStored 9 = .ok (.if_icmp .ge 18, 3) := by decide +kernel
theorem dX3_isStored_12 : decode cX3_isStored 12 = .ok (.aload_n 0, 1) := by decide +kernel
theorem dX3_isStored_13 : decode cX3_isStored 13 = .ok (.getfield 21, 3) := by decide +kernel
theorem dX3_isStored_16 : decode cX3_isStored 16 = .ok (.iload_n 1, 1) := by decide +kernel
theorem dX3_isStored_17 : decode cX3_isStored 17 = .ok (.invokestatic 37, 3) := by decide +kernel
theorem dX3_isStored_20 : decode cX3_isStored 20 = .ok (.ifCond .ne 7, 3) := by decide +kernel
theorem dX3_isStored_23 : decode cX3_isStored 23 = .ok (.iconst 1, 1) := by decide +kernel
theorem dX3_isStored_24 : decode cX3_isStored 24 = .ok (.goto 4, 3) := by decide +kernel
theorem dX3_isStored_27 : decode cX3_isStored 27 = .ok (.iconst 0, 1) := by decide +kernel
theorem dX3_isStored_28 : decode cX3_isStored 28 = .ok (.ireturn, 1) := by decide +kernel
theorem dX3_countStored_0 : decode cX3_countStored 0 = .ok (.iconst 0, 1) := by decide +kernel
theorem dX3_countStored_1 : decode cX3_countStored 1 = .ok (.istore_n 1, 1) := by decide +kernel
theorem dX3_countStored_2 : decode cX3_countStored 2 = .ok (.iconst 0, 1) := by decide +kernel
theorem dX3_countStored_3 : decode cX3_countStored 3 = .ok (.istore_n 2, 1) := by decide +kernel
theorem dX3_countStored_4 : decode cX3_countStored 4 = .ok (.iload_n 2, 1) := by decide +kernel
theorem dX3_countStored_5 : decode cX3_countStored 5 = .ok (.aload_n 0, 1) := by decide +kernel
theorem dX3_countStored_6 : decode cX3_countStored 6 = .ok (.getfield 25, 3) := by decide +kernel
theorem dX3_countStored_9 : decode cX3_countStored 9 = .ok (.if_icmp .ge 20, 3) := by decide +kernel
theorem dX3_countStored_12 : decode cX3_countStored 12 = .ok (.aload_n 0, 1) := by decide +kernel
theorem dX3_countStored_13 : decode cX3_countStored 13 = .ok (.iload_n 2, 1) := by decide +kernel
theorem dX3_countStored_14 : decode cX3_countStored 14 = .ok (.invokevirtual 41, 3) := by decide +kernel
theorem dX3_countStored_17 : decode cX3_countStored 17 = .ok (.ifCond .eq 6, 3) := by decide +kernel
theorem dX3_countStored_20 : decode cX3_countStored 20 = .ok (.iinc 1 1, 3) := by decide +kernel
theorem dX3_countStored_23 : decode cX3_countStored 23 = .ok (.iinc 2 1, 3) := by decide +kernel
theorem dX3_countStored_26 : decode cX3_countStored 26 = .ok (.goto (-22), 3) := by decide +kernel
theorem dX3_countStored_29 : decode cX3_countStored 29 = .ok (.iload_n 1, 1) := by decide +kernel
theorem dX3_countStored_30 : decode cX3_countStored 30 = .ok (.ireturn, 1) := by decide +kernel
theorem dX3_levelAt_0 : decode cX3_levelAt 0 = .ok (.aload_n 0, 1) := by decide +kernel
theorem dX3_levelAt_1 : decode cX3_levelAt 1 = .ok (.getfield 9, 3) := by decide +kernel
theorem dX3_levelAt_4 : decode cX3_levelAt 4 = .ok (.iload_n 1, 1) := by decide +kernel
theorem dX3_levelAt_5 : decode cX3_levelAt 5 = .ok (.invokestatic 45, 3) := by decide +kernel
theorem dX3_levelAt_8 : decode cX3_levelAt 8 = .ok (.ireturn, 1) := by decide +kernel
theorem dX3_fillAt_0 : decode cX3_fillAt 0 = .ok (.iload_n 1, 1) := by decide +kernel
theorem dX3_fillAt_1 : decode cX3_fillAt 1 = .ok (.ifCond .lt 21, 3) := by decide +kernel
theorem dX3_fillAt_4 : decode cX3_fillAt 4 = .ok (.iload_n 1, 1) := by decide +kernel
theorem dX3_fillAt_5 : decode cX3_fillAt 5 = .ok (.aload_n 0, 1) := by decide +kernel
theorem dX3_fillAt_6 : decode cX3_fillAt 6 = .ok (.getfield 15, 3) := by decide +kernel
theorem dX3_fillAt_9 : decode cX3_fillAt 9 = .ok (.arraylength, 1) := by decide +kernel
theorem dX3_fillAt_10 : decode cX3_fillAt 10 = .ok (.if_icmp .ge 12, 3) := by decide +kernel
theorem dX3_fillAt_13 : decode cX3_fillAt 13 = .ok (.aload_n 0, 1) := by decide +kernel
theorem dX3_fillAt_14 : decode cX3_fillAt 14 = .ok (.getfield 15, 3) := by decide +kernel
theorem dX3_fillAt_17 : decode cX3_fillAt 17 = .ok (.iload_n 1, 1) := by decide +kernel
theorem dX3_fillAt_18 : decode cX3_fillAt 18 = .ok (.iaload, 1) := by decide +kernel
theorem dX3_fillAt_19 : decode cX3_fillAt 19 = .ok (.goto 4, 3) := by decide +kernel
theorem dX3_fillAt_22 : decode cX3_fillAt 22 = .ok (.iconst 0, 1) := by decide +kernel
theorem dX3_fillAt_23 : decode cX3_fillAt 23 = .ok (.ireturn, 1) := by decide +kernel
theorem dX3_entryAt_0 : decode cX3_entryAt 0 = .ok (.iload_n 2, 1) := by decide +kernel
theorem dX3_entryAt_1 : decode cX3_entryAt 1 = .ok (.ifCond .lt 12, 3) := by decide +kernel
theorem dX3_entryAt_4 : decode cX3_entryAt 4 = .ok (.iload_n 2, 1) := by decide +kernel
theorem dX3_entryAt_5 : decode cX3_entryAt 5 = .ok (.aload_n 0, 1) := by decide +kernel
theorem dX3_entryAt_6 : decode cX3_entryAt 6 = .ok (.iload_n 1, 1) := by decide +kernel
theorem dX3_entryAt_7 : decode cX3_entryAt 7 = .ok (.invokevirtual 49, 3) := by decide +kernel
theorem dX3_entryAt_10 : decode cX3_entryAt 10 = .ok (.if_icmp .lt 5, 3) := by decide +kernel
theorem dX3_entryAt_13 : decode cX3_entryAt 13 = .ok (.iconst (-1), 1) := by decide +kernel
theorem dX3_entryAt_14 : decode cX3_entryAt 14 = .ok (.ireturn, 1) := by decide +kernel
theorem dX3_entryAt_15 : decode cX3_entryAt 15 = .ok (.aload_n 0, 1) := by decide +kernel
theorem dX3_entryAt_16 : decode cX3_entryAt 16 = .ok (.getfield 18, 3) := by decide +kernel
theorem dX3_entryAt_19 : decode cX3_entryAt 19 = .ok (.iload_n 1, 1) := by decide +kernel
theorem dX3_entryAt_20 : decode cX3_entryAt 20 = .ok (.iconst 4, 1) := by decide +kernel
theorem dX3_entryAt_21 : decode cX3_entryAt 21 = .ok (.imul, 1) := by decide +kernel
theorem dX3_entryAt_22 : decode cX3_entryAt 22 = .ok (.iload_n 2, 1) := by decide +kernel
theorem dX3_entryAt_23 : decode cX3_entryAt 23 = .ok (.iadd, 1) := by decide +kernel
theorem dX3_entryAt_24 : decode cX3_entryAt 24 = .ok (.invokestatic 45, 3) := by decide +kernel
theorem dX3_entryAt_27 : decode cX3_entryAt 27 = .ok (.ireturn, 1) := by decide +kernel
theorem dX3_childAt_0 : decode cX3_childAt 0 = .ok (.aload_n 0, 1) := by decide +kernel
theorem dX3_childAt_1 : decode cX3_childAt 1 = .ok (.iload_n 1, 1) := by decide +kernel
theorem dX3_childAt_2 : decode cX3_childAt 2 = .ok (.invokevirtual 53, 3) := by decide +kernel
theorem dX3_childAt_5 : decode cX3_childAt 5 = .ok (.iconst 1, 1) := by decide +kernel
theorem dX3_childAt_6 : decode cX3_childAt 6 = .ok (.if_icmp .le 12, 3) := by decide +kernel
theorem dX3_childAt_9 : decode cX3_childAt 9 = .ok (.aload_n 0, 1) := by decide +kernel
theorem dX3_childAt_10 : decode cX3_childAt 10 = .ok (.iload_n 1, 1) := by decide +kernel
theorem dX3_childAt_11 : decode cX3_childAt 11 = .ok (.iload_n 2, 1) := by decide +kernel
theorem dX3_childAt_12 : decode cX3_childAt 12 = .ok (.invokevirtual 56, 3) := by decide +kernel
theorem dX3_childAt_15 : decode cX3_childAt 15 = .ok (.goto 4, 3) := by decide +kernel
theorem dX3_childAt_18 : decode cX3_childAt 18 = .ok (.iconst (-1), 1) := by decide +kernel
theorem dX3_childAt_19 : decode cX3_childAt 19 = .ok (.ireturn, 1) := by decide +kernel
theorem dX3_add_0 : decode cX3_add 0 = .ok (.aload_n 0, 1) := by decide +kernel
theorem dX3_add_1 : decode cX3_add 1 = .ok (.getfield 25, 3) := by decide +kernel
theorem dX3_add_4 : decode cX3_add 4 = .ok (.istore_n 2, 1) := by decide +kernel
theorem dX3_add_5 : decode cX3_add 5 = .ok (.aload_n 0, 1) := by decide +kernel
theorem dX3_add_6 : decode cX3_add 6 = .ok (.getfield 9, 3) := by decide +kernel
theorem dX3_add_9 : decode cX3_add 9 = .ok (.iload_n 2, 1) := by decide +kernel
theorem dX3_add_10 : decode cX3_add 10 = .ok (.iload_n 1, 1) := by decide +kernel
theorem dX3_add_11 : decode cX3_add 11 = .ok (.invokestatic 60, 3) := by decide +kernel
theorem dX3_add_14 : decode cX3_add 14 = .ok (.aload_n 0, 1) := by decide +kernel
theorem dX3_add_15 : decode cX3_add 15 = .ok (.getfield 15, 3) := by decide +kernel
theorem dX3_add_18 : decode cX3_add 18 = .ok (.iload_n 2, 1) := by decide +kernel
theorem dX3_add_19 : decode cX3_add 19 = .ok (.iconst 0, 1) := by decide +kernel
theorem dX3_add_20 : decode cX3_add 20 = .ok (.invokestatic 60, 3) := by decide +kernel
theorem dX3_add_23 : decode cX3_add 23 = .ok (.aload_n 0, 1) := by decide +kernel
theorem dX3_add_24 : decode cX3_add 24 = .ok (.getfield 21, 3) := by decide +kernel
theorem dX3_add_27 : decode cX3_add 27 = .ok (.iload_n 2, 1) := by decide +kernel
theorem dX3_add_28 : decode cX3_add 28 = .ok (.iconst 0, 1) := by decide +kernel
theorem dX3_add_29 : decode cX3_add 29 = .ok (.invokestatic 64, 3) := by decide +kernel
theorem dX3_add_32 : decode cX3_add 32 = .ok (.aload_n 0, 1) := by decide +kernel
theorem dX3_add_33 : decode cX3_add 33 = .ok (.dup, 1) := by decide +kernel
theorem dX3_add_34 : decode cX3_add 34 = .ok (.getfield 25, 3) := by decide +kernel
theorem dX3_add_37 : decode cX3_add 37 = .ok (.iconst 1, 1) := by decide +kernel
theorem dX3_add_38 : decode cX3_add 38 = .ok (.iadd, 1) := by decide +kernel
theorem dX3_add_39 : decode cX3_add 39 = .ok (.putfield 25, 3) := by decide +kernel
theorem dX3_add_42 : decode cX3_add 42 = .ok (.iload_n 2, 1) := by decide +kernel
theorem dX3_add_43 : decode cX3_add 43 = .ok (.ireturn, 1) := by decide +kernel
theorem dX3_place_0 : decode cX3_place 0 = .ok (.aload_n 0, 1) := by decide +kernel
theorem dX3_place_1 : decode cX3_place 1 = .ok (.getfield 18, 3) := by decide +kernel
theorem dX3_place_4 : decode cX3_place 4 = .ok (.iload_n 1, 1) := by decide +kernel
theorem dX3_place_5 : decode cX3_place 5 = .ok (.iconst 4, 1) := by decide +kernel
theorem dX3_place_6 : decode cX3_place 6 = .ok (.imul, 1) := by decide +kernel
theorem dX3_place_7 : decode cX3_place 7 = .ok (.iload_n 2, 1) := by decide +kernel
theorem dX3_place_8 : decode cX3_place 8 = .ok (.iadd, 1) := by decide +kernel
theorem dX3_place_9 : decode cX3_place 9 = .ok (.iload_n 3, 1) := by decide +kernel
theorem dX3_place_10 : decode cX3_place 10 = .ok (.invokestatic 60, 3) := by decide +kernel
theorem dX3_place_13 : decode cX3_place 13 = .ok (.aload_n 0, 1) := by decide +kernel
theorem dX3_place_14 : decode cX3_place 14 = .ok (.getfield 15, 3) := by decide +kernel
theorem dX3_place_17 : decode cX3_place 17 = .ok (.iload_n 1, 1) := by decide +kernel
theorem dX3_place_18 : decode cX3_place 18 = .ok (.aload_n 0, 1) := by decide +kernel
theorem dX3_place_19 : decode cX3_place 19 = .ok (.iload_n 1, 1) := by decide +kernel
theorem dX3_place_20 : decode cX3_place 20 = .ok (.invokevirtual 49, 3) := by decide +kernel
theorem dX3_place_23 : decode cX3_place 23 = .ok (.iload_n 2, 1) := by decide +kernel
theorem dX3_place_24 : decode cX3_place 24 = .ok (.iconst 1, 1) := by decide +kernel
theorem dX3_place_25 : decode cX3_place 25 = .ok (.iadd, 1) := by decide +kernel
theorem dX3_place_26 : decode cX3_place 26 = .ok (.invokestatic 68, 3) := by decide +kernel
theorem dX3_place_29 : decode cX3_place 29 = .ok (.invokestatic 60, 3) := by decide +kernel
theorem dX3_place_32 : decode cX3_place 32 = .ok (.return_, 1) := by decide +kernel
theorem dX3_addCopy_0 : decode cX3_addCopy 0 = .ok (.aload_n 0, 1) := by decide +kernel
theorem dX3_addCopy_1 : decode cX3_addCopy 1 = .ok (.iload_n 2, 1) := by decide +kernel
theorem dX3_addCopy_2 : decode cX3_addCopy 2 = .ok (.invokevirtual 73, 3) := by decide +kernel
theorem dX3_addCopy_5 : decode cX3_addCopy 5 = .ok (.istore 6, 2) := by decide +kernel
theorem dX3_addCopy_7 : decode cX3_addCopy 7 = .ok (.iconst 0, 1) := by decide +kernel
theorem dX3_addCopy_8 : decode cX3_addCopy 8 = .ok (.istore 7, 2) := by decide +kernel
theorem dX3_addCopy_10 : decode cX3_addCopy 10 = .ok (.iload 7, 2) := by decide +kernel
theorem dX3_addCopy_12 : decode cX3_addCopy 12 = .ok (.iload_n 3, 1) := by decide +kernel
theorem dX3_addCopy_13 : decode cX3_addCopy 13 = .ok (.if_icmp .ge 24, 3) := by decide +kernel
theorem dX3_addCopy_16 : decode cX3_addCopy 16 = .ok (.aload_n 0, 1) := by decide +kernel
theorem dX3_addCopy_17 : decode cX3_addCopy 17 = .ok (.iload 6, 2) := by decide +kernel
theorem dX3_addCopy_19 : decode cX3_addCopy 19 = .ok (.iload 7, 2) := by decide +kernel
theorem dX3_addCopy_21 : decode cX3_addCopy 21 = .ok (.aload_n 0, 1) := by decide +kernel
theorem dX3_addCopy_22 : decode cX3_addCopy 22 = .ok (.iload_n 1, 1) := by decide +kernel
theorem dX3_addCopy_23 : decode cX3_addCopy 23 = .ok (.iload 7, 2) := by decide +kernel
theorem dX3_addCopy_25 : decode cX3_addCopy 25 = .ok (.invokevirtual 56, 3) := by decide +kernel
theorem dX3_addCopy_28 : decode cX3_addCopy 28 = .ok (.invokevirtual 76, 3) := by decide +kernel
theorem dX3_addCopy_31 : decode cX3_addCopy 31 = .ok (.iinc 7 1, 3) := by decide +kernel
theorem dX3_addCopy_34 : decode cX3_addCopy 34 = .ok (.goto (-24), 3) := by decide +kernel
theorem dX3_addCopy_37 : decode cX3_addCopy 37 = .ok (.aload_n 0, 1) := by decide +kernel
theorem dX3_addCopy_38 : decode cX3_addCopy 38 = .ok (.iload 6, 2) := by decide +kernel
theorem dX3_addCopy_40 : decode cX3_addCopy 40 = .ok (.iload 4, 2) := by decide +kernel
theorem dX3_addCopy_42 : decode cX3_addCopy 42 = .ok (.iload 5, 2) := by decide +kernel
theorem dX3_addCopy_44 : decode cX3_addCopy 44 = .ok (.invokevirtual 76, 3) := by decide +kernel
theorem dX3_addCopy_47 : decode cX3_addCopy 47 = .ok (.iload 6, 2) := by decide +kernel
theorem dX3_addCopy_49 : decode cX3_addCopy 49 = .ok (.ireturn, 1) := by decide +kernel
theorem dX3_countReferrers_0 : decode cX3_countReferrers 0 = .ok (.iconst 0, 1) := by decide +kernel
theorem dX3_countReferrers_1 : decode cX3_countReferrers 1 = .ok (.istore_n 2, 1) := by decide +kernel
theorem dX3_countReferrers_2 : decode cX3_countReferrers 2 = .ok (.iconst 0, 1) := by decide +kernel
theorem dX3_countReferrers_3 : decode cX3_countReferrers 3 = .ok (.istore_n 3, 1) := by decide +kernel
theorem dX3_countReferrers_4 : decode cX3_countReferrers 4 = .ok (.iload_n 3, 1) := by decide +kernel
theorem dX3_countReferrers_5 : decode cX3_countReferrers 5 = .ok (.aload_n 0, 1) := by decide +kernel
theorem dX3_countReferrers_6 : decode cX3_countReferrers 6 = .ok (.getfield 25, 3) := by decide +kernel
theorem dX3_countReferrers_9 : decode cX3_countReferrers 9 = .ok (.if_icmp .ge 29, 3) := by decide +kernel
theorem dX3_countReferrers_12 : decode cX3_countReferrers 12 = .ok (.aload_n 0, 1) := by decide +kernel
theorem dX3_countReferrers_13 : decode cX3_countReferrers 13 = .ok (.iload_n 3, 1) := by decide +kernel
theorem dX3_countReferrers_14 : decode cX3_countReferrers 14 = .ok (.invokevirtual 41, 3) := by decide +kernel
theorem dX3_countReferrers_17 : decode cX3_countReferrers 17 = .ok (.ifCond .eq 15, 3) := by decide +kernel
theorem dX3_countReferrers_20 : decode cX3_countReferrers 20 = .ok (.aload_n 0, 1) := by decide +kernel
theorem dX3_countReferrers_21 : decode cX3_countReferrers 21 = .ok (.iload_n 3, 1) := by decide +kernel
theorem dX3_countReferrers_22 : decode cX3_countReferrers 22 = .ok (.iload_n 1, 1) := by decide +kernel
theorem dX3_countReferrers_23 : decode cX3_countReferrers 23 = .ok (.invokevirtual 80, 3) := by decide +kernel
theorem dX3_countReferrers_26 : decode cX3_countReferrers 26 = .ok (.ifCond .eq 6, 3) := by decide +kernel
theorem dX3_countReferrers_29 : decode cX3_countReferrers 29 = .ok (.iinc 2 1, 3) := by decide +kernel
theorem dX3_countReferrers_32 : decode cX3_countReferrers 32 = .ok (.iinc 3 1, 3) := by decide +kernel
theorem dX3_countReferrers_35 : decode cX3_countReferrers 35 = .ok (.goto (-31), 3) := by decide +kernel
theorem dX3_countReferrers_38 : decode cX3_countReferrers 38 = .ok (.iload_n 2, 1) := by decide +kernel
theorem dX3_countReferrers_39 : decode cX3_countReferrers 39 = .ok (.ireturn, 1) := by decide +kernel
theorem dX3_refersTo_0 : decode cX3_refersTo 0 = .ok (.iconst 0, 1) := by decide +kernel
theorem dX3_refersTo_1 : decode cX3_refersTo 1 = .ok (.istore_n 3, 1) := by decide +kernel
theorem dX3_refersTo_2 : decode cX3_refersTo 2 = .ok (.iload_n 3, 1) := by decide +kernel
theorem dX3_refersTo_3 : decode cX3_refersTo 3 = .ok (.aload_n 0, 1) := by decide +kernel
theorem dX3_refersTo_4 : decode cX3_refersTo 4 = .ok (.iload_n 1, 1) := by decide +kernel
theorem dX3_refersTo_5 : decode cX3_refersTo 5 = .ok (.invokevirtual 49, 3) := by decide +kernel
theorem dX3_refersTo_8 : decode cX3_refersTo 8 = .ok (.if_icmp .ge 21, 3) := by decide +kernel
theorem dX3_refersTo_11 : decode cX3_refersTo 11 = .ok (.aload_n 0, 1) := by decide +kernel
theorem dX3_refersTo_12 : decode cX3_refersTo 12 = .ok (.iload_n 1, 1) := by decide +kernel
theorem dX3_refersTo_13 : decode cX3_refersTo 13 = .ok (.iload_n 3, 1) := by decide +kernel
theorem dX3_refersTo_14 : decode cX3_refersTo 14 = .ok (.invokevirtual 84, 3) := by decide +kernel
theorem dX3_refersTo_17 : decode cX3_refersTo 17 = .ok (.iload_n 2, 1) := by decide +kernel
theorem dX3_refersTo_18 : decode cX3_refersTo 18 = .ok (.if_icmp .ne 5, 3) := by decide +kernel
theorem dX3_refersTo_21 : decode cX3_refersTo 21 = .ok (.iconst 1, 1) := by decide +kernel
theorem dX3_refersTo_22 : decode cX3_refersTo 22 = .ok (.ireturn, 1) := by decide +kernel
theorem dX3_refersTo_23 : decode cX3_refersTo 23 = .ok (.iinc 3 1, 3) := by decide +kernel
theorem dX3_refersTo_26 : decode cX3_refersTo 26 = .ok (.goto (-24), 3) := by decide +kernel
theorem dX3_refersTo_29 : decode cX3_refersTo 29 = .ok (.iconst 0, 1) := by decide +kernel
theorem dX3_refersTo_30 : decode cX3_refersTo 30 = .ok (.ireturn, 1) := by decide +kernel
theorem dX4_init_0 : decode cX4_init 0 = .ok (.aload_n 0, 1) := by decide +kernel
theorem dX4_init_1 : decode cX4_init 1 = .ok (.invokespecial 3, 3) := by decide +kernel
theorem dX4_init_4 : decode cX4_init 4 = .ok (.aload_n 0, 1) := by decide +kernel
theorem dX4_init_5 : decode cX4_init 5 = .ok (.sipush 321, 3) := by decide +kernel
theorem dX4_init_8 : decode cX4_init 8 = .ok (.newarray .int, 2) := by decide +kernel
theorem dX4_init_10 : decode cX4_init 10 = .ok (.putfield 9, 3) := by decide +kernel
theorem dX4_init_13 : decode cX4_init 13 = .ok (.return_, 1) := by decide +kernel
theorem dX4_byteAt_0 : decode cX4_byteAt 0 = .ok (.iload_n 1, 1) := by decide +kernel
theorem dX4_byteAt_1 : decode cX4_byteAt 1 = .ok (.aload_n 0, 1) := by decide +kernel
theorem dX4_byteAt_2 : decode cX4_byteAt 2 = .ok (.getfield 15, 3) := by decide +kernel
theorem dX4_byteAt_5 : decode cX4_byteAt 5 = .ok (.if_icmp .ge 14, 3) := by decide +kernel
theorem dX4_byteAt_8 : decode cX4_byteAt 8 = .ok (.aload_n 0, 1) := by decide +kernel
theorem dX4_byteAt_9 : decode cX4_byteAt 9 = .ok (.getfield 9, 3) := by decide +kernel
theorem dX4_byteAt_12 : decode cX4_byteAt 12 = .ok (.iload_n 1, 1) := by decide +kernel
theorem dX4_byteAt_13 : decode cX4_byteAt 13 = .ok (.invokestatic 19, 3) := by decide +kernel
theorem dX4_byteAt_16 : decode cX4_byteAt 16 = .ok (.goto 4, 3) := by decide +kernel
theorem dX4_byteAt_19 : decode cX4_byteAt 19 = .ok (.iconst (-1), 1) := by decide +kernel
theorem dX4_byteAt_20 : decode cX4_byteAt 20 = .ok (.ireturn, 1) := by decide +kernel
theorem dX4_write_0 : decode cX4_write 0 = .ok (.aload_n 0, 1) := by decide +kernel
theorem dX4_write_1 : decode cX4_write 1 = .ok (.iconst 0, 1) := by decide +kernel
theorem dX4_write_2 : decode cX4_write 2 = .ok (.putfield 15, 3) := by decide +kernel
theorem dX4_write_5 : decode cX4_write 5 = .ok (.aload_n 0, 1) := by decide +kernel
theorem dX4_write_6 : decode cX4_write 6 = .ok (.bipush 91, 2) := by decide +kernel
theorem dX4_write_8 : decode cX4_write 8 = .ok (.invokevirtual 23, 3) := by decide +kernel
theorem dX4_write_11 : decode cX4_write 11 = .ok (.iconst 0, 1) := by decide +kernel
theorem dX4_write_12 : decode cX4_write 12 = .ok (.istore_n 3, 1) := by decide +kernel
theorem dX4_write_13 : decode cX4_write 13 = .ok (.iload_n 3, 1) := by decide +kernel
theorem dX4_write_14 : decode cX4_write 14 = .ok (.aload_n 1, 1) := by decide +kernel
theorem dX4_write_15 : decode cX4_write 15 = .ok (.getfield 27, 3) := by decide +kernel
theorem dX4_write_18 : decode cX4_write 18 = .ok (.iload_n 2, 1) := by decide +kernel
theorem dX4_write_19 : decode cX4_write 19 = .ok (.invokevirtual 33, 3) := by decide +kernel
theorem dX4_write_22 : decode cX4_write 22 = .ok (.if_icmp .ge 42, 3) := by decide +kernel
theorem dX4_write_25 : decode cX4_write 25 = .ok (.iload_n 3, 1) := by decide +kernel
theorem dX4_write_26 : decode cX4_write 26 = .ok (.ifCond .le 22, 3) := by decide +kernel
theorem dX4_write_29 : decode cX4_write 29 = .ok (.aload_n 0, 1) := by decide +kernel
theorem dX4_write_30 : decode cX4_write 30 = .ok (.iconst 1, 1) := by decide +kernel
theorem dX4_write_31 : decode cX4_write 31 = .ok (.iload_n 3, 1) := by decide +kernel
theorem dX4_write_32 : decode cX4_write 32 = .ok (.invokestatic 39, 3) := by decide +kernel
theorem dX4_write_35 : decode cX4_write 35 = .ok (.ifCond .ne 8, 3) := by decide +kernel
theorem dX4_write_38 : decode cX4_write 38 = .ok (.bipush 124, 2) := by decide +kernel
theorem dX4_write_40 : decode cX4_write 40 = .ok (.goto 5, 3) := by decide +kernel
theorem dX4_write_43 : decode cX4_write 43 = .ok (.bipush 44, 2) := by decide +kernel
theorem dX4_write_45 : decode cX4_write 45 = .ok (.invokevirtual 23, 3) := by decide +kernel
theorem dX4_write_48 : decode cX4_write 48 = .ok (.aload_n 0, 1) := by decide +kernel
theorem dX4_write_49 : decode cX4_write 49 = .ok (.aload_n 1, 1) := by decide +kernel
theorem dX4_write_50 : decode cX4_write 50 = .ok (.iload_n 2, 1) := by decide +kernel
theorem dX4_write_51 : decode cX4_write 51 = .ok (.iload_n 3, 1) := by decide +kernel
theorem dX4_write_52 : decode cX4_write 52 = .ok (.invokevirtual 43, 3) := by decide +kernel
theorem dX4_write_55 : decode cX4_write 55 = .ok (.invokevirtual 46, 3) := by decide +kernel
theorem dX4_write_58 : decode cX4_write 58 = .ok (.iinc 3 1, 3) := by decide +kernel
theorem dX4_write_61 : decode cX4_write 61 = .ok (.goto (-48), 3) := by decide +kernel
theorem dX4_write_64 : decode cX4_write 64 = .ok (.aload_n 0, 1) := by decide +kernel
theorem dX4_write_65 : decode cX4_write 65 = .ok (.bipush 93, 2) := by decide +kernel
theorem dX4_write_67 : decode cX4_write 67 = .ok (.invokevirtual 23, 3) := by decide +kernel
theorem dX4_write_70 : decode cX4_write 70 = .ok (.return_, 1) := by decide +kernel
theorem dX4_addNumber_0 : decode cX4_addNumber 0 = .ok (.iload_n 1, 1) := by decide +kernel
theorem dX4_addNumber_1 : decode cX4_addNumber 1 = .ok (.ifCond .ge 9, 3) := by decide +kernel
theorem dX4_addNumber_4 : decode cX4_addNumber 4 = .ok (.aload_n 0, 1) := by decide +kernel
theorem dX4_addNumber_5 : decode cX4_addNumber 5 = .ok (.bipush 45, 2) := by decide +kernel
theorem dX4_addNumber_7 : decode cX4_addNumber 7 = .ok (.invokevirtual 23, 3) := by decide +kernel
theorem dX4_addNumber_10 : decode cX4_addNumber 10 = .ok (.iload_n 1, 1) := by decide +kernel
theorem dX4_addNumber_11 : decode cX4_addNumber 11 = .ok (.invokestatic 49, 3) := by decide +kernel
theorem dX4_addNumber_14 : decode cX4_addNumber 14 = .ok (.istore_n 2, 1) := by decide +kernel
theorem dX4_addNumber_15 : decode cX4_addNumber 15 = .ok (.iload_n 2, 1) := by decide +kernel
theorem dX4_addNumber_16 : decode cX4_addNumber 16 = .ok (.bipush 100, 2) := by decide +kernel
theorem dX4_addNumber_18 : decode cX4_addNumber 18 = .ok (.if_icmp .lt 14, 3) := by decide +kernel
theorem dX4_addNumber_21 : decode cX4_addNumber 21 = .ok (.aload_n 0, 1) := by decide +kernel
theorem dX4_addNumber_22 : decode cX4_addNumber 22 = .ok (.bipush 48, 2) := by decide +kernel
theorem dX4_addNumber_24 : decode cX4_addNumber 24 = .ok (.iload_n 2, 1) := by decide +kernel
theorem dX4_addNumber_25 : decode cX4_addNumber 25 = .ok (.bipush 100, 2) := by decide +kernel
theorem dX4_addNumber_27 : decode cX4_addNumber 27 = .ok (.idiv, 1) := by decide +kernel
theorem dX4_addNumber_28 : decode cX4_addNumber 28 = .ok (.iadd, 1) := by decide +kernel
theorem dX4_addNumber_29 : decode cX4_addNumber 29 = .ok (.invokevirtual 23, 3) := by decide +kernel
theorem dX4_addNumber_32 : decode cX4_addNumber 32 = .ok (.iload_n 2, 1) := by decide +kernel
theorem dX4_addNumber_33 : decode cX4_addNumber 33 = .ok (.bipush 10, 2) := by decide +kernel
theorem dX4_addNumber_35 : decode cX4_addNumber 35 = .ok (.if_icmp .lt 17, 3) := by decide +kernel
theorem dX4_addNumber_38 : decode cX4_addNumber 38 = .ok (.aload_n 0, 1) := by decide +kernel
theorem dX4_addNumber_39 : decode cX4_addNumber 39 = .ok (.bipush 48, 2) := by decide +kernel
theorem dX4_addNumber_41 : decode cX4_addNumber 41 = .ok (.iload_n 2, 1) := by decide +kernel
theorem dX4_addNumber_42 : decode cX4_addNumber 42 = .ok (.bipush 10, 2) := by decide +kernel
theorem dX4_addNumber_44 : decode cX4_addNumber 44 = .ok (.idiv, 1) := by decide +kernel
theorem dX4_addNumber_45 : decode cX4_addNumber 45 = .ok (.bipush 10, 2) := by decide +kernel
theorem dX4_addNumber_47 : decode cX4_addNumber 47 = .ok (.irem, 1) := by decide +kernel
theorem dX4_addNumber_48 : decode cX4_addNumber 48 = .ok (.iadd, 1) := by decide +kernel
theorem dX4_addNumber_49 : decode cX4_addNumber 49 = .ok (.invokevirtual 23, 3) := by decide +kernel
theorem dX4_addNumber_52 : decode cX4_addNumber 52 = .ok (.aload_n 0, 1) := by decide +kernel
theorem dX4_addNumber_53 : decode cX4_addNumber 53 = .ok (.bipush 48, 2) := by decide +kernel
theorem dX4_addNumber_55 : decode cX4_addNumber 55 = .ok (.iload_n 2, 1) := by decide +kernel
theorem dX4_addNumber_56 : decode cX4_addNumber 56 = .ok (.bipush 10, 2) := by decide +kernel
theorem dX4_addNumber_58 : decode cX4_addNumber 58 = .ok (.irem, 1) := by decide +kernel
theorem dX4_addNumber_59 : decode cX4_addNumber 59 = .ok (.iadd, 1) := by decide +kernel
theorem dX4_addNumber_60 : decode cX4_addNumber 60 = .ok (.invokevirtual 23, 3) := by decide +kernel
theorem dX4_addNumber_63 : decode cX4_addNumber 63 = .ok (.return_, 1) := by decide +kernel
theorem dX4_addByte_0 : decode cX4_addByte 0 = .ok (.aload_n 0, 1) := by decide +kernel
theorem dX4_addByte_1 : decode cX4_addByte 1 = .ok (.getfield 9, 3) := by decide +kernel
theorem dX4_addByte_4 : decode cX4_addByte 4 = .ok (.aload_n 0, 1) := by decide +kernel
theorem dX4_addByte_5 : decode cX4_addByte 5 = .ok (.getfield 15, 3) := by decide +kernel
theorem dX4_addByte_8 : decode cX4_addByte 8 = .ok (.iload_n 1, 1) := by decide +kernel
theorem dX4_addByte_9 : decode cX4_addByte 9 = .ok (.invokestatic 54, 3) := by decide +kernel
theorem dX4_addByte_12 : decode cX4_addByte 12 = .ok (.aload_n 0, 1) := by decide +kernel
theorem dX4_addByte_13 : decode cX4_addByte 13 = .ok (.dup, 1) := by decide +kernel
theorem dX4_addByte_14 : decode cX4_addByte 14 = .ok (.getfield 15, 3) := by decide +kernel
theorem dX4_addByte_17 : decode cX4_addByte 17 = .ok (.iconst 1, 1) := by decide +kernel
theorem dX4_addByte_18 : decode cX4_addByte 18 = .ok (.iadd, 1) := by decide +kernel
theorem dX4_addByte_19 : decode cX4_addByte 19 = .ok (.putfield 15, 3) := by decide +kernel
theorem dX4_addByte_22 : decode cX4_addByte 22 = .ok (.return_, 1) := by decide +kernel
theorem dX5_init_0 : decode cX5_init 0 = .ok (.aload_n 0, 1) := by decide +kernel
theorem dX5_init_1 : decode cX5_init 1 = .ok (.invokespecial 3, 3) := by decide +kernel
theorem dX5_init_4 : decode cX5_init 4 = .ok (.aload_n 0, 1) := by decide +kernel
theorem dX5_init_5 : decode cX5_init 5 = .ok (.sipush 138, 3) := by decide +kernel
theorem dX5_init_8 : decode cX5_init 8 = .ok (.newarray .boolean, 2) := by decide +kernel
theorem dX5_init_10 : decode cX5_init 10 = .ok (.putfield 9, 3) := by decide +kernel
theorem dX5_init_13 : decode cX5_init 13 = .ok (.aload_n 0, 1) := by decide +kernel
theorem dX5_init_14 : decode cX5_init 14 = .ok (.aload_n 1, 1) := by decide +kernel
theorem dX5_init_15 : decode cX5_init 15 = .ok (.putfield 15, 3) := by decide +kernel
theorem dX5_init_18 : decode cX5_init 18 = .ok (.return_, 1) := by decide +kernel
theorem dX5_countGarbage_0 : decode cX5_countGarbage 0 = .ok (.aload_n 0, 1) := by decide +kernel
theorem dX5_countGarbage_1 : decode cX5_countGarbage 1 = .ok (.iconst (-1), 1) := by decide +kernel
theorem dX5_countGarbage_2 : decode cX5_countGarbage 2 = .ok (.invokevirtual 19, 3) := by decide +kernel
theorem dX5_countGarbage_5 : decode cX5_countGarbage 5 = .ok (.aload_n 0, 1) := by decide +kernel
theorem dX5_countGarbage_6 : decode cX5_countGarbage 6 = .ok (.getfield 15, 3) := by decide +kernel
theorem dX5_countGarbage_9 : decode cX5_countGarbage 9 = .ok (.getfield 23, 3) := by decide +kernel
theorem dX5_countGarbage_12 : decode cX5_countGarbage 12 = .ok (.invokevirtual 29, 3) := by decide +kernel
theorem dX5_countGarbage_15 : decode cX5_countGarbage 15 = .ok (.aload_n 0, 1) := by decide +kernel
theorem dX5_countGarbage_16 : decode cX5_countGarbage 16 = .ok (.invokevirtual 35, 3) := by decide +kernel
theorem dX5_countGarbage_19 : decode cX5_countGarbage 19 = .ok (.isub, 1) := by decide +kernel
theorem dX5_countGarbage_20 : decode cX5_countGarbage 20 = .ok (.ireturn, 1) := by decide +kernel
theorem dX5_removeGarbage_0 : decode cX5_removeGarbage 0 = .ok (.aload_n 0, 1) := by decide +kernel
theorem dX5_removeGarbage_1 : decode cX5_removeGarbage 1 = .ok (.iconst (-1), 1) := by decide +kernel
theorem dX5_removeGarbage_2 : decode cX5_removeGarbage 2 = .ok (.invokevirtual 19, 3) := by decide +kernel
theorem dX5_removeGarbage_5 : decode cX5_removeGarbage 5 = .ok (.iconst 0, 1) := by decide +kernel
theorem dX5_removeGarbage_6 : decode cX5_removeGarbage 6 = .ok (.istore_n 1, 1) := by decide +kernel
theorem dX5_removeGarbage_7 : decode cX5_removeGarbage 7 = .ok (.iconst 0, 1) := by decide +kernel
theorem dX5_removeGarbage_8 : decode cX5_removeGarbage 8 = .ok (.istore_n 2, 1) := by decide +kernel
theorem dX5_removeGarbage_9 : decode cX5_removeGarbage 9 = .ok (.iload_n 2, 1) := by decide +kernel
theorem dX5_removeGarbage_10 : decode cX5_removeGarbage 10 = .ok (.aload_n 0, 1) := by decide +kernel
theorem dX5_removeGarbage_11 : decode cX5_removeGarbage 11 = .ok (.getfield 15, 3) := by decide +kernel
theorem dX5_removeGarbage_14 : decode cX5_removeGarbage 14 = .ok (.getfield 23, 3) := by decide +kernel
theorem dX5_removeGarbage_17 : decode cX5_removeGarbage 17 = .ok (.getfield 38, 3) := by decide +kernel
theorem dX5_removeGarbage_20 : decode cX5_removeGarbage 20 = .ok (.if_icmp .ge 49, 3) := by decide +kernel
theorem dX5_removeGarbage_23 : decode cX5_removeGarbage 23 = .ok (.aload_n 0, 1) := by decide +kernel
theorem dX5_removeGarbage_24 : decode cX5_removeGarbage 24 = .ok (.getfield 15, 3) := by decide +kernel
theorem dX5_removeGarbage_27 : decode cX5_removeGarbage 27 = .ok (.getfield 23, 3) := by decide +kernel
theorem dX5_removeGarbage_30 : decode cX5_removeGarbage 30 = .ok (.iload_n 2, 1) := by decide +kernel
theorem dX5_removeGarbage_31 : decode cX5_removeGarbage 31 = .ok (.invokevirtual 42, 3) := by decide +kernel
theorem dX5_removeGarbage_34 : decode cX5_removeGarbage 34 = .ok (.ifCond .eq 29, 3) := by decide +kernel
theorem dX5_removeGarbage_37 : decode cX5_removeGarbage 37 = .ok (.aload_n 0, 1) := by decide +kernel
theorem dX5_removeGarbage_38 : decode cX5_removeGarbage 38 = .ok (.iload_n 2, 1) := by decide +kernel
theorem dX5_removeGarbage_39 : decode cX5_removeGarbage 39 = .ok (.invokevirtual 46, 3) := by decide +kernel
theorem dX5_removeGarbage_42 : decode cX5_removeGarbage 42 = .ok (.ifCond .ne 21, 3) := by decide +kernel
theorem dX5_removeGarbage_45 : decode cX5_removeGarbage 45 = .ok (.aload_n 0, 1) := by decide +kernel
theorem dX5_removeGarbage_46 : decode cX5_removeGarbage 46 = .ok (.getfield 15, 3) := by decide +kernel
theorem dX5_removeGarbage_49 : decode cX5_removeGarbage 49 = .ok (.getfield 23, 3) := by decide +kernel
theorem dX5_removeGarbage_52 : decode cX5_removeGarbage 52 = .ok (.getfield 49, 3) := by decide +kernel
theorem dX5_removeGarbage_55 : decode cX5_removeGarbage 55 = .ok (.iload_n 2, 1) := by decide +kernel
theorem dX5_removeGarbage_56 : decode cX5_removeGarbage 56 = .ok (.iconst 1, 1) := by decide +kernel
theorem dX5_removeGarbage_57 : decode cX5_removeGarbage 57 = .ok (.invokestatic 52, 3) := by decide +kernel
theorem dX5_removeGarbage_60 : decode cX5_removeGarbage 60 = .ok (.iinc 1 1, 3) := by decide +kernel
theorem dX5_removeGarbage_63 : decode cX5_removeGarbage 63 = .ok (.iinc 2 1, 3) := by decide +kernel
theorem dX5_removeGarbage_66 : decode cX5_removeGarbage 66 = .ok (.goto (-57), 3) := by decide +kernel
theorem dX5_removeGarbage_69 : decode cX5_removeGarbage 69 = .ok (.iload_n 1, 1) := by decide +kernel
theorem dX5_removeGarbage_70 : decode cX5_removeGarbage 70 = .ok (.ireturn, 1) := by decide +kernel
theorem dX5_countExclusive_0 : decode cX5_countExclusive 0 = .ok (.aload_n 0, 1) := by decide +kernel
theorem dX5_countExclusive_1 : decode cX5_countExclusive 1 = .ok (.iconst (-1), 1) := by decide +kernel
theorem dX5_countExclusive_2 : decode cX5_countExclusive 2 = .ok (.invokevirtual 56, 3) := by decide +kernel
theorem dX5_countExclusive_5 : decode cX5_countExclusive 5 = .ok (.aload_n 0, 1) := by decide +kernel
theorem dX5_countExclusive_6 : decode cX5_countExclusive 6 = .ok (.iload_n 1, 1) := by decide +kernel
theorem dX5_countExclusive_7 : decode cX5_countExclusive 7 = .ok (.invokevirtual 56, 3) := by decide +kernel
theorem dX5_countExclusive_10 : decode cX5_countExclusive 10 = .ok (.isub, 1) := by decide +kernel
theorem dX5_countExclusive_11 : decode cX5_countExclusive 11 = .ok (.ireturn, 1) := by decide +kernel
theorem dX5_countShared_0 : decode cX5_countShared 0 = .ok (.aload_n 0, 1) := by decide +kernel
theorem dX5_countShared_1 : decode cX5_countShared 1 = .ok (.invokevirtual 60, 3) := by decide +kernel
theorem dX5_countShared_4 : decode cX5_countShared 4 = .ok (.aload_n 0, 1) := by decide +kernel
theorem dX5_countShared_5 : decode cX5_countShared 5 = .ok (.aload_n 0, 1) := by decide +kernel
theorem dX5_countShared_6 : decode cX5_countShared 6 = .ok (.getfield 15, 3) := by decide +kernel
theorem dX5_countShared_9 : decode cX5_countShared 9 = .ok (.getfield 63, 3) := by decide +kernel
theorem dX5_countShared_12 : decode cX5_countShared 12 = .ok (.iload_n 1, 1) := by decide +kernel
theorem dX5_countShared_13 : decode cX5_countShared 13 = .ok (.invokevirtual 67, 3) := by decide +kernel
theorem dX5_countShared_16 : decode cX5_countShared 16 = .ok (.aload_n 0, 1) := by decide +kernel
theorem dX5_countShared_17 : decode cX5_countShared 17 = .ok (.getfield 15, 3) := by decide +kernel
theorem dX5_countShared_20 : decode cX5_countShared 20 = .ok (.iload_n 1, 1) := by decide +kernel
theorem dX5_countShared_21 : decode cX5_countShared 21 = .ok (.invokevirtual 72, 3) := by decide +kernel
theorem dX5_countShared_24 : decode cX5_countShared 24 = .ok (.invokevirtual 75, 3) := by decide +kernel
theorem dX5_countShared_27 : decode cX5_countShared 27 = .ok (.aload_n 0, 1) := by decide +kernel
theorem dX5_countShared_28 : decode cX5_countShared 28 = .ok (.aload_n 0, 1) := by decide +kernel
theorem dX5_countShared_29 : decode cX5_countShared 29 = .ok (.getfield 15, 3) := by decide +kernel
theorem dX5_countShared_32 : decode cX5_countShared 32 = .ok (.getfield 63, 3) := by decide +kernel
theorem dX5_countShared_35 : decode cX5_countShared 35 = .ok (.iload_n 2, 1) := by decide +kernel
theorem dX5_countShared_36 : decode cX5_countShared 36 = .ok (.invokevirtual 67, 3) := by decide +kernel
theorem dX5_countShared_39 : decode cX5_countShared 39 = .ok (.aload_n 0, 1) := by decide +kernel
theorem dX5_countShared_40 : decode cX5_countShared 40 = .ok (.getfield 15, 3) := by decide +kernel
theorem dX5_countShared_43 : decode cX5_countShared 43 = .ok (.iload_n 2, 1) := by decide +kernel
theorem dX5_countShared_44 : decode cX5_countShared 44 = .ok (.invokevirtual 72, 3) := by decide +kernel
theorem dX5_countShared_47 : decode cX5_countShared 47 = .ok (.invokevirtual 75, 3) := by decide +kernel
theorem dX5_countShared_50 : decode cX5_countShared 50 = .ok (.aload_n 0, 1) := by decide +kernel
theorem dX5_countShared_51 : decode cX5_countShared 51 = .ok (.getfield 15, 3) := by decide +kernel
theorem dX5_countShared_54 : decode cX5_countShared 54 = .ok (.iload_n 1, 1) := by decide +kernel
theorem dX5_countShared_55 : decode cX5_countShared 55 = .ok (.invokevirtual 79, 3) := by decide +kernel
theorem dX5_countShared_58 : decode cX5_countShared 58 = .ok (.aload_n 0, 1) := by decide +kernel
theorem dX5_countShared_59 : decode cX5_countShared 59 = .ok (.getfield 15, 3) := by decide +kernel
theorem dX5_countShared_62 : decode cX5_countShared 62 = .ok (.iload_n 2, 1) := by decide +kernel
theorem dX5_countShared_63 : decode cX5_countShared 63 = .ok (.invokevirtual 79, 3) := by decide +kernel
theorem dX5_countShared_66 : decode cX5_countShared 66 = .ok (.iadd, 1) := by decide +kernel
theorem dX5_countShared_67 : decode cX5_countShared 67 = .ok (.aload_n 0, 1) := by decide +kernel
theorem dX5_countShared_68 : decode cX5_countShared 68 = .ok (.invokevirtual 35, 3) := by decide +kernel
theorem dX5_countShared_71 : decode cX5_countShared 71 = .ok (.isub, 1) := by decide +kernel
theorem dX5_countShared_72 : decode cX5_countShared 72 = .ok (.ireturn, 1) := by decide +kernel
theorem dX5_countReachedWithout_0 : decode cX5_countReachedWithout 0 = .ok (.aload_n 0, 1) := by decide +kernel
theorem dX5_countReachedWithout_1 : decode cX5_countReachedWithout 1 = .ok (.iload_n 1, 1) := by decide +kernel
theorem dX5_countReachedWithout_2 : decode cX5_countReachedWithout 2 = .ok (.invokevirtual 19, 3) := by decide +kernel
theorem dX5_countReachedWithout_5 : decode cX5_countReachedWithout 5 = .ok (.aload_n 0, 1) := by decide +kernel
theorem dX5_countReachedWithout_6 : decode cX5_countReachedWithout 6 = .ok (.invokevirtual 35, 3) := by decide +kernel
theorem dX5_countReachedWithout_9 : decode cX5_countReachedWithout 9 = .ok (.ireturn, 1) := by decide +kernel
theorem dX5_searchWithout_0 : decode cX5_searchWithout 0 = .ok (.aload_n 0, 1) := by decide +kernel
theorem dX5_searchWithout_1 : decode cX5_searchWithout 1 = .ok (.invokevirtual 60, 3) := by decide +kernel
theorem dX5_searchWithout_4 : decode cX5_searchWithout 4 = .ok (.iconst 0, 1) := by decide +kernel
theorem dX5_searchWithout_5 : decode cX5_searchWithout 5 = .ok (.istore_n 2, 1) := by decide +kernel
theorem dX5_searchWithout_6 : decode cX5_searchWithout 6 = .ok (.iload_n 2, 1) := by decide +kernel
theorem dX5_searchWithout_7 : decode cX5_searchWithout 7 = .ok (.aload_n 0, 1) := by decide +kernel
theorem dX5_searchWithout_8 : decode cX5_searchWithout 8 = .ok (.getfield 15, 3) := by decide +kernel
theorem dX5_searchWithout_11 : decode cX5_searchWithout 11 = .ok (.getfield 63, 3) := by decide +kernel
theorem dX5_searchWithout_14 : decode cX5_searchWithout 14 = .ok (.getfield 82, 3) := by decide +kernel
theorem dX5_searchWithout_17 : decode cX5_searchWithout 17 = .ok (.if_icmp .ge 51, 3) := by decide +kernel
theorem dX5_searchWithout_20 : decode cX5_searchWithout 20 = .ok (.iload_n 2, 1) := by decide +kernel
theorem dX5_searchWithout_21 : decode cX5_searchWithout 21 = .ok (.iload_n 1, 1) := by decide +kernel
theorem dX5_searchWithout_22 : decode cX5_searchWithout 22 = .ok (.if_icmp .eq 40, 3) := by decide +kernel
theorem dX5_searchWithout_25 : decode cX5_searchWithout 25 = .ok (.aload_n 0, 1) := by decide +kernel
theorem dX5_searchWithout_26 : decode cX5_searchWithout 26 = .ok (.getfield 15, 3) := by decide +kernel
theorem dX5_searchWithout_29 : decode cX5_searchWithout 29 = .ok (.getfield 63, 3) := by decide +kernel
theorem dX5_searchWithout_32 : decode cX5_searchWithout 32 = .ok (.iload_n 2, 1) := by decide +kernel
theorem dX5_searchWithout_33 : decode cX5_searchWithout 33 = .ok (.invokevirtual 85, 3) := by decide +kernel
theorem dX5_searchWithout_36 : decode cX5_searchWithout 36 = .ok (.ifCond .eq 26, 3) := by decide +kernel
theorem dX5_searchWithout_39 : decode cX5_searchWithout 39 = .ok (.aload_n 0, 1) := by decide +kernel
theorem dX5_searchWithout_40 : decode cX5_searchWithout 40 = .ok (.aload_n 0, 1) := by decide +kernel
theorem dX5_searchWithout_41 : decode cX5_searchWithout 41 = .ok (.getfield 15, 3) := by decide +kernel
theorem dX5_searchWithout_44 : decode cX5_searchWithout 44 = .ok (.getfield 63, 3) := by decide +kernel
theorem dX5_searchWithout_47 : decode cX5_searchWithout 47 = .ok (.iload_n 2, 1) := by decide +kernel
theorem dX5_searchWithout_48 : decode cX5_searchWithout 48 = .ok (.invokevirtual 67, 3) := by decide +kernel
theorem dX5_searchWithout_51 : decode cX5_searchWithout 51 = .ok (.aload_n 0, 1) := by decide +kernel
theorem dX5_searchWithout_52 : decode cX5_searchWithout 52 = .ok (.getfield 15, 3) := by decide +kernel
theorem dX5_searchWithout_55 : decode cX5_searchWithout 55 = .ok (.iload_n 2, 1) := by decide +kernel
theorem dX5_searchWithout_56 : decode cX5_searchWithout 56 = .ok (.invokevirtual 72, 3) := by decide +kernel
theorem dX5_searchWithout_59 : decode cX5_searchWithout 59 = .ok (.invokevirtual 75, 3) := by decide +kernel
theorem dX5_searchWithout_62 : decode cX5_searchWithout 62 = .ok (.iinc 2 1, 3) := by decide +kernel
theorem dX5_searchWithout_65 : decode cX5_searchWithout 65 = .ok (.goto (-59), 3) := by decide +kernel
theorem dX5_searchWithout_68 : decode cX5_searchWithout 68 = .ok (.return_, 1) := by decide +kernel
theorem dX5_has_0 : decode cX5_has 0 = .ok (.aload_n 0, 1) := by decide +kernel
theorem dX5_has_1 : decode cX5_has 1 = .ok (.getfield 9, 3) := by decide +kernel
theorem dX5_has_4 : decode cX5_has 4 = .ok (.iload_n 1, 1) := by decide +kernel
theorem dX5_has_5 : decode cX5_has 5 = .ok (.invokestatic 88, 3) := by decide +kernel
theorem dX5_has_8 : decode cX5_has 8 = .ok (.ireturn, 1) := by decide +kernel
theorem dX5_clear_0 : decode cX5_clear 0 = .ok (.iconst 0, 1) := by decide +kernel
theorem dX5_clear_1 : decode cX5_clear 1 = .ok (.istore_n 1, 1) := by decide +kernel
theorem dX5_clear_2 : decode cX5_clear 2 = .ok (.iload_n 1, 1) := by decide +kernel
theorem dX5_clear_3 : decode cX5_clear 3 = .ok (.aload_n 0, 1) := by decide +kernel
theorem dX5_clear_4 : decode cX5_clear 4 = .ok (.getfield 9, 3) := by decide +kernel
theorem dX5_clear_7 : decode cX5_clear 7 = .ok (.arraylength, 1) := by decide +kernel
theorem dX5_clear_8 : decode cX5_clear 8 = .ok (.if_icmp .ge 16, 3) := by decide +kernel
theorem dX5_clear_11 : decode cX5_clear 11 = .ok (.aload_n 0, 1) := by decide +kernel
theorem dX5_clear_12 : decode cX5_clear 12 = .ok (.getfield 9, 3) := by decide +kernel
theorem dX5_clear_15 : decode cX5_clear 15 = .ok (.iload_n 1, 1) := by decide +kernel
theorem dX5_clear_16 : decode cX5_clear 16 = .ok (.iconst 0, 1) := by decide +kernel
theorem dX5_clear_17 : decode cX5_clear 17 = .ok (.bastore, 1) := by decide +kernel
theorem dX5_clear_18 : decode cX5_clear 18 = .ok (.iinc 1 1, 3) := by decide +kernel
theorem dX5_clear_21 : decode cX5_clear 21 = .ok (.goto (-19), 3) := by decide +kernel
theorem dX5_clear_24 : decode cX5_clear 24 = .ok (.return_, 1) := by decide +kernel
theorem dX5_visit_0 : decode cX5_visit 0 = .ok (.iload_n 2, 1) := by decide +kernel
theorem dX5_visit_1 : decode cX5_visit 1 = .ok (.iconst 1, 1) := by decide +kernel
theorem dX5_visit_2 : decode cX5_visit 2 = .ok (.if_icmp .lt 14, 3) := by decide +kernel
theorem dX5_visit_5 : decode cX5_visit 5 = .ok (.aload_n 0, 1) := by decide +kernel
theorem dX5_visit_6 : decode cX5_visit 6 = .ok (.getfield 9, 3) := by decide +kernel
theorem dX5_visit_9 : decode cX5_visit 9 = .ok (.iload_n 1, 1) := by decide +kernel
theorem dX5_visit_10 : decode cX5_visit 10 = .ok (.invokestatic 88, 3) := by decide +kernel
theorem dX5_visit_13 : decode cX5_visit 13 = .ok (.ifCond .eq 4, 3) := by decide +kernel
theorem dX5_visit_16 : decode cX5_visit 16 = .ok (.return_, 1) := by decide +kernel
theorem dX5_visit_17 : decode cX5_visit 17 = .ok (.aload_n 0, 1) := by decide +kernel
theorem dX5_visit_18 : decode cX5_visit 18 = .ok (.getfield 9, 3) := by decide +kernel
theorem dX5_visit_21 : decode cX5_visit 21 = .ok (.iload_n 1, 1) := by decide +kernel
theorem dX5_visit_22 : decode cX5_visit 22 = .ok (.iconst 1, 1) := by decide +kernel
theorem dX5_visit_23 : decode cX5_visit 23 = .ok (.invokestatic 52, 3) := by decide +kernel
theorem dX5_visit_26 : decode cX5_visit 26 = .ok (.iconst 0, 1) := by decide +kernel
theorem dX5_visit_27 : decode cX5_visit 27 = .ok (.istore_n 3, 1) := by decide +kernel
theorem dX5_visit_28 : decode cX5_visit 28 = .ok (.iload_n 2, 1) := by decide +kernel
theorem dX5_visit_29 : decode cX5_visit 29 = .ok (.iconst 1, 1) := by decide +kernel
theorem dX5_visit_30 : decode cX5_visit 30 = .ok (.if_icmp .le 43, 3) := by decide +kernel
theorem dX5_visit_33 : decode cX5_visit 33 = .ok (.iload_n 3, 1) := by decide +kernel
theorem dX5_visit_34 : decode cX5_visit 34 = .ok (.aload_n 0, 1) := by decide +kernel
theorem dX5_visit_35 : decode cX5_visit 35 = .ok (.getfield 15, 3) := by decide +kernel
theorem dX5_visit_38 : decode cX5_visit 38 = .ok (.getfield 23, 3) := by decide +kernel
theorem dX5_visit_41 : decode cX5_visit 41 = .ok (.iload_n 1, 1) := by decide +kernel
theorem dX5_visit_42 : decode cX5_visit 42 = .ok (.invokevirtual 92, 3) := by decide +kernel
theorem dX5_visit_45 : decode cX5_visit 45 = .ok (.if_icmp .ge 28, 3) := by decide +kernel
theorem dX5_visit_48 : decode cX5_visit 48 = .ok (.aload_n 0, 1) := by decide +kernel
theorem dX5_visit_49 : decode cX5_visit 49 = .ok (.aload_n 0, 1) := by decide +kernel
theorem dX5_visit_50 : decode cX5_visit 50 = .ok (.getfield 15, 3) := by decide +kernel
theorem dX5_visit_53 : decode cX5_visit 53 = .ok (.getfield 23, 3) := by decide +kernel
theorem dX5_visit_56 : decode cX5_visit 56 = .ok (.iload_n 1, 1) := by decide +kernel
theorem dX5_visit_57 : decode cX5_visit 57 = .ok (.iload_n 3, 1) := by decide +kernel
theorem dX5_visit_58 : decode cX5_visit 58 = .ok (.invokevirtual 95, 3) := by decide +kernel
theorem dX5_visit_61 : decode cX5_visit 61 = .ok (.iload_n 2, 1) := by decide +kernel
theorem dX5_visit_62 : decode cX5_visit 62 = .ok (.iconst 1, 1) := by decide +kernel
theorem dX5_visit_63 : decode cX5_visit 63 = .ok (.isub, 1) := by decide +kernel
theorem dX5_visit_64 : decode cX5_visit 64 = .ok (.invokevirtual 75, 3) := by decide +kernel
theorem dX5_visit_67 : decode cX5_visit 67 = .ok (.iinc 3 1, 3) := by decide +kernel
theorem dX5_visit_70 : decode cX5_visit 70 = .ok (.goto (-42), 3) := by decide +kernel
theorem dX5_visit_73 : decode cX5_visit 73 = .ok (.return_, 1) := by decide +kernel
theorem dX5_countReached_0 : decode cX5_countReached 0 = .ok (.iconst 0, 1) := by decide +kernel
theorem dX5_countReached_1 : decode cX5_countReached 1 = .ok (.istore_n 1, 1) := by decide +kernel
theorem dX5_countReached_2 : decode cX5_countReached 2 = .ok (.iconst 0, 1) := by decide +kernel
theorem dX5_countReached_3 : decode cX5_countReached 3 = .ok (.istore_n 2, 1) := by decide +kernel
theorem dX5_countReached_4 : decode cX5_countReached 4 = .ok (.iload_n 2, 1) := by decide +kernel
theorem dX5_countReached_5 : decode cX5_countReached 5 = .ok (.aload_n 0, 1) := by decide +kernel
theorem dX5_countReached_6 : decode cX5_countReached 6 = .ok (.getfield 15, 3) := by decide +kernel
theorem dX5_countReached_9 : decode cX5_countReached 9 = .ok (.getfield 23, 3) := by decide +kernel
theorem dX5_countReached_12 : decode cX5_countReached 12 = .ok (.getfield 38, 3) := by decide +kernel
theorem dX5_countReached_15 : decode cX5_countReached 15 = .ok (.if_icmp .ge 20, 3) := by decide +kernel
theorem dX5_countReached_18 : decode cX5_countReached 18 = .ok (.aload_n 0, 1) := by decide +kernel
theorem dX5_countReached_19 : decode cX5_countReached 19 = .ok (.iload_n 2, 1) := by decide +kernel
theorem dX5_countReached_20 : decode cX5_countReached 20 = .ok (.invokevirtual 46, 3) := by decide +kernel
theorem dX5_countReached_23 : decode cX5_countReached 23 = .ok (.ifCond .eq 6, 3) := by decide +kernel
theorem dX5_countReached_26 : decode cX5_countReached 26 = .ok (.iinc 1 1, 3) := by decide +kernel
theorem dX5_countReached_29 : decode cX5_countReached 29 = .ok (.iinc 2 1, 3) := by decide +kernel
theorem dX5_countReached_32 : decode cX5_countReached 32 = .ok (.goto (-28), 3) := by decide +kernel
theorem dX5_countReached_35 : decode cX5_countReached 35 = .ok (.iload_n 1, 1) := by decide +kernel
theorem dX5_countReached_36 : decode cX5_countReached 36 = .ok (.ireturn, 1) := by decide +kernel
theorem dX6_init_0 : decode cX6_init 0 = .ok (.aload_n 0, 1) := by decide +kernel
theorem dX6_init_1 : decode cX6_init 1 = .ok (.invokespecial 3, 3) := by decide +kernel
theorem dX6_init_4 : decode cX6_init 4 = .ok (.aload_n 0, 1) := by decide +kernel
theorem dX6_init_5 : decode cX6_init 5 = .ok (.bipush 120, 2) := by decide +kernel
theorem dX6_init_7 : decode cX6_init 7 = .ok (.newarray .int, 2) := by decide +kernel
theorem dX6_init_9 : decode cX6_init 9 = .ok (.putfield 11, 3) := by decide +kernel
theorem dX6_init_12 : decode cX6_init 12 = .ok (.aload_n 0, 1) := by decide +kernel
theorem dX6_init_13 : decode cX6_init 13 = .ok (.aload_n 1, 1) := by decide +kernel
theorem dX6_init_14 : decode cX6_init 14 = .ok (.putfield 15, 3) := by decide +kernel
theorem dX6_init_17 : decode cX6_init 17 = .ok (.return_, 1) := by decide +kernel
theorem dX6_wordOf_0 : decode cX6_wordOf 0 = .ok (.aload_n 0, 1) := by decide +kernel
theorem dX6_wordOf_1 : decode cX6_wordOf 1 = .ok (.getfield 11, 3) := by decide +kernel
theorem dX6_wordOf_4 : decode cX6_wordOf 4 = .ok (.iload_n 1, 1) := by decide +kernel
theorem dX6_wordOf_5 : decode cX6_wordOf 5 = .ok (.iconst 4, 1) := by decide +kernel
theorem dX6_wordOf_6 : decode cX6_wordOf 6 = .ok (.imul, 1) := by decide +kernel
theorem dX6_wordOf_7 : decode cX6_wordOf 7 = .ok (.invokestatic 19, 3) := by decide +kernel
theorem dX6_wordOf_10 : decode cX6_wordOf 10 = .ok (.ireturn, 1) := by decide +kernel
theorem dX6_argumentOf_0 : decode cX6_argumentOf 0 = .ok (.aload_n 0, 1) := by decide +kernel
theorem dX6_argumentOf_1 : decode cX6_argumentOf 1 = .ok (.getfield 11, 3) := by decide +kernel
theorem dX6_argumentOf_4 : decode cX6_argumentOf 4 = .ok (.iload_n 1, 1) := by decide +kernel
theorem dX6_argumentOf_5 : decode cX6_argumentOf 5 = .ok (.iconst 4, 1) := by decide +kernel
theorem dX6_argumentOf_6 : decode cX6_argumentOf 6 = .ok (.imul, 1) := by decide +kernel
theorem dX6_argumentOf_7 : decode cX6_argumentOf 7 = .ok (.iconst 1, 1) := by decide +kernel
theorem dX6_argumentOf_8 : decode cX6_argumentOf 8 = .ok (.iadd, 1) := by decide +kernel
theorem dX6_argumentOf_9 : decode cX6_argumentOf 9 = .ok (.iload_n 2, 1) := by decide +kernel
theorem dX6_argumentOf_10 : decode cX6_argumentOf 10 = .ok (.iadd, 1) := by decide +kernel
theorem dX6_argumentOf_11 : decode cX6_argumentOf 11 = .ok (.invokestatic 19, 3) := by decide +kernel
theorem dX6_argumentOf_14 : decode cX6_argumentOf 14 = .ok (.ireturn, 1) := by decide +kernel
theorem dX6_parse_0 : decode cX6_parse 0 = .ok (.aload_n 0, 1) := by decide +kernel
theorem dX6_parse_1 : decode cX6_parse 1 = .ok (.iconst 0, 1) := by decide +kernel
theorem dX6_parse_2 : decode cX6_parse 2 = .ok (.putfield 23, 3) := by decide +kernel
theorem dX6_parse_5 : decode cX6_parse 5 = .ok (.aload_n 0, 1) := by decide +kernel
theorem dX6_parse_6 : decode cX6_parse 6 = .ok (.iconst 0, 1) := by decide +kernel
theorem dX6_parse_7 : decode cX6_parse 7 = .ok (.putfield 27, 3) := by decide +kernel
theorem dX6_parse_10 : decode cX6_parse 10 = .ok (.aload_n 0, 1) := by decide +kernel
theorem dX6_parse_11 : decode cX6_parse 11 = .ok (.iconst 0, 1) := by decide +kernel
theorem dX6_parse_12 : decode cX6_parse 12 = .ok (.putfield 31, 3) := by decide +kernel
theorem dX6_parse_15 : decode cX6_parse 15 = .ok (.aload_n 0, 1) := by decide +kernel
theorem dX6_parse_16 : decode cX6_parse 16 = .ok (.getfield 15, 3) := by decide +kernel
theorem dX6_parse_19 : decode cX6_parse 19 = .ok (.invokevirtual 34, 3) := by decide +kernel
theorem dX6_parse_22 : decode cX6_parse 22 = .ok (.iconst 0, 1) := by decide +kernel
theorem dX6_parse_23 : decode cX6_parse 23 = .ok (.istore_n 1, 1) := by decide +kernel
theorem dX6_parse_24 : decode cX6_parse 24 = .ok (.iload_n 1, 1) := by decide +kernel
theorem dX6_parse_25 : decode cX6_parse 25 = .ok (.sipush 600, 3) := by decide +kernel
theorem dX6_parse_28 : decode cX6_parse 28 = .ok (.if_icmp .gt 51, 3) := by decide +kernel
theorem dX6_parse_31 : decode cX6_parse 31 = .ok (.aload_n 0, 1) := by decide +kernel
theorem dX6_parse_32 : decode cX6_parse 32 = .ok (.getfield 15, 3) := by decide +kernel
theorem dX6_parse_35 : decode cX6_parse 35 = .ok (.invokevirtual 39, 3) := by decide +kernel
theorem dX6_parse_38 : decode cX6_parse 38 = .ok (.ifCond .eq 41, 3) := by decide +kernel
theorem dX6_parse_41 : decode cX6_parse 41 = .ok (.aload_n 0, 1) := by decide +kernel
theorem dX6_parse_42 : decode cX6_parse 42 = .ok (.getfield 27, 3) := by decide +kernel
theorem dX6_parse_45 : decode cX6_parse 45 = .ok (.ifCond .eq 10, 3) := by decide +kernel
theorem dX6_parse_48 : decode cX6_parse 48 = .ok (.aload_n 0, 1) := by decide +kernel
theorem dX6_parse_49 : decode cX6_parse 49 = .ok (.invokevirtual 43, 3) := by decide +kernel
theorem dX6_parse_52 : decode cX6_parse 52 = .ok (.goto 7, 3) := by decide +kernel
theorem dX6_parse_55 : decode cX6_parse 55 = .ok (.aload_n 0, 1) := by decide +kernel
theorem dX6_parse_56 : decode cX6_parse 56 = .ok (.invokevirtual 47, 3) := by decide +kernel
theorem dX6_parse_59 : decode cX6_parse 59 = .ok (.istore_n 2, 1) := by decide +kernel
theorem dX6_parse_60 : decode cX6_parse 60 = .ok (.iload_n 2, 1) := by decide +kernel
theorem dX6_parse_61 : decode cX6_parse 61 = .ok (.ifCond .eq 12, 3) := by decide +kernel
theorem dX6_parse_64 : decode cX6_parse 64 = .ok (.aload_n 0, 1) := by decide +kernel
theorem dX6_parse_65 : decode cX6_parse 65 = .ok (.getfield 15, 3) := by decide +kernel
theorem dX6_parse_68 : decode cX6_parse 68 = .ok (.iload_n 2, 1) := by decide +kernel
theorem dX6_parse_69 : decode cX6_parse 69 = .ok (.invokevirtual 50, 3) := by decide +kernel
theorem dX6_parse_72 : decode cX6_parse 72 = .ok (.ireturn, 1) := by decide +kernel
theorem dX6_parse_73 : decode cX6_parse 73 = .ok (.iinc 1 1, 3) := by decide +kernel
theorem dX6_parse_76 : decode cX6_parse 76 = .ok (.goto (-52), 3) := by decide +kernel
theorem dX6_parse_79 : decode cX6_parse 79 = .ok (.aload_n 0, 1) := by decide +kernel
theorem dX6_parse_80 : decode cX6_parse 80 = .ok (.getfield 27, 3) := by decide +kernel
theorem dX6_parse_83 : decode cX6_parse 83 = .ok (.ifCond .eq 14, 3) := by decide +kernel
theorem dX6_parse_86 : decode cX6_parse 86 = .ok (.aload_n 0, 1) := by decide +kernel
theorem dX6_parse_87 : decode cX6_parse 87 = .ok (.getfield 15, 3) := by decide +kernel
theorem dX6_parse_90 : decode cX6_parse 90 = .ok (.iconst 1, 1) := by decide +kernel
theorem dX6_parse_91 : decode cX6_parse 91 = .ok (.invokevirtual 50, 3) := by decide +kernel
theorem dX6_parse_94 : decode cX6_parse 94 = .ok (.ifCond .eq 7, 3) := by decide +kernel
theorem dX6_parse_97 : decode cX6_parse 97 = .ok (.iconst 1, 1) := by decide +kernel
theorem dX6_parse_98 : decode cX6_parse 98 = .ok (.goto 4, 3) := by decide +kernel
theorem dX6_parse_101 : decode cX6_parse 101 = .ok (.iconst 0, 1) := by decide +kernel
theorem dX6_parse_102 : decode cX6_parse 102 = .ok (.ireturn, 1) := by decide +kernel
theorem dX6_open_0 : decode cX6_open 0 = .ok (.aload_n 0, 1) := by decide +kernel
theorem dX6_open_1 : decode cX6_open 1 = .ok (.getfield 15, 3) := by decide +kernel
theorem dX6_open_4 : decode cX6_open 4 = .ok (.getfield 54, 3) := by decide +kernel
theorem dX6_open_7 : decode cX6_open 7 = .ok (.iconst 3, 1) := by decide +kernel
theorem dX6_open_8 : decode cX6_open 8 = .ok (.if_icmp .ge 5, 3) := by decide +kernel
theorem dX6_open_11 : decode cX6_open 11 = .ok (.iconst 1, 1) := by decide +kernel
theorem dX6_open_12 : decode cX6_open 12 = .ok (.ireturn, 1) := by decide +kernel
theorem dX6_open_13 : decode cX6_open 13 = .ok (.aload_n 0, 1) := by decide +kernel
theorem dX6_open_14 : decode cX6_open 14 = .ok (.getfield 23, 3) := by decide +kernel
theorem dX6_open_17 : decode cX6_open 17 = .ok (.bipush 30, 2) := by decide +kernel
theorem dX6_open_19 : decode cX6_open 19 = .ok (.if_icmp .lt 5, 3) := by decide +kernel
theorem dX6_open_22 : decode cX6_open 22 = .ok (.iconst 3, 1) := by decide +kernel
theorem dX6_open_23 : decode cX6_open 23 = .ok (.ireturn, 1) := by decide +kernel
theorem dX6_open_24 : decode cX6_open 24 = .ok (.aload_n 0, 1) := by decide +kernel
theorem dX6_open_25 : decode cX6_open 25 = .ok (.getfield 11, 3) := by decide +kernel
theorem dX6_open_28 : decode cX6_open 28 = .ok (.aload_n 0, 1) := by decide +kernel
theorem dX6_open_29 : decode cX6_open 29 = .ok (.getfield 23, 3) := by decide +kernel
theorem dX6_open_32 : decode cX6_open 32 = .ok (.iconst 4, 1) := by decide +kernel
theorem dX6_open_33 : decode cX6_open 33 = .ok (.imul, 1) := by decide +kernel
theorem dX6_open_34 : decode cX6_open 34 = .ok (.aload_n 0, 1) := by decide +kernel
theorem dX6_open_35 : decode cX6_open 35 = .ok (.getfield 15, 3) := by decide +kernel
theorem dX6_open_38 : decode cX6_open 38 = .ok (.getfield 54, 3) := by decide +kernel
theorem dX6_open_41 : decode cX6_open 41 = .ok (.invokestatic 57, 3) := by decide +kernel
theorem dX6_open_44 : decode cX6_open 44 = .ok (.aload_n 0, 1) := by decide +kernel
theorem dX6_open_45 : decode cX6_open 45 = .ok (.iconst 1, 1) := by decide +kernel
theorem dX6_open_46 : decode cX6_open 46 = .ok (.putfield 27, 3) := by decide +kernel
theorem dX6_open_49 : decode cX6_open 49 = .ok (.aload_n 0, 1) := by decide +kernel
theorem dX6_open_50 : decode cX6_open 50 = .ok (.iconst 0, 1) := by decide +kernel
theorem dX6_open_51 : decode cX6_open 51 = .ok (.putfield 61, 3) := by decide +kernel
theorem dX6_open_54 : decode cX6_open 54 = .ok (.iconst 0, 1) := by decide +kernel
theorem dX6_open_55 : decode cX6_open 55 = .ok (.ireturn, 1) := by decide +kernel
theorem dX6_accept_0 : decode cX6_accept 0 = .ok (.aload_n 0, 1) := by decide +kernel
theorem dX6_accept_1 : decode cX6_accept 1 = .ok (.invokevirtual 64, 3) := by decide +kernel
theorem dX6_accept_4 : decode cX6_accept 4 = .ok (.istore_n 1, 1) := by decide +kernel
theorem dX6_accept_5 : decode cX6_accept 5 = .ok (.iload_n 1, 1) := by decide +kernel
theorem dX6_accept_6 : decode cX6_accept 6 = .ok (.iconst (-1), 1) := by decide +kernel
theorem dX6_accept_7 : decode cX6_accept 7 = .ok (.if_icmp .ne 8, 3) := by decide +kernel
theorem dX6_accept_10 : decode cX6_accept 10 = .ok (.aload_n 0, 1) := by decide +kernel
theorem dX6_accept_11 : decode cX6_accept 11 = .ok (.invokevirtual 67, 3) := by decide +kernel
theorem dX6_accept_14 : decode cX6_accept 14 = .ok (.ireturn, 1) := by decide +kernel
theorem dX6_accept_15 : decode cX6_accept 15 = .ok (.iload_n 1, 1) := by decide +kernel
theorem dX6_accept_16 : decode cX6_accept 16 = .ok (.sipush 999, 3) := by decide +kernel
theorem dX6_accept_19 : decode cX6_accept 19 = .ok (.if_icmp .ne 28, 3) := by decide +kernel
theorem dX6_accept_22 : decode cX6_accept 22 = .ok (.aload_n 0, 1) := by decide +kernel
theorem dX6_accept_23 : decode cX6_accept 23 = .ok (.getfield 15, 3) := by decide +kernel
theorem dX6_accept_26 : decode cX6_accept 26 = .ok (.getfield 54, 3) := by decide +kernel
theorem dX6_accept_29 : decode cX6_accept 29 = .ok (.iconst 2, 1) := by decide +kernel
theorem dX6_accept_30 : decode cX6_accept 30 = .ok (.if_icmp .ne 17, 3) := by decide +kernel
theorem dX6_accept_33 : decode cX6_accept 33 = .ok (.aload_n 0, 1) := by decide +kernel
theorem dX6_accept_34 : decode cX6_accept 34 = .ok (.getfield 31, 3) := by decide +kernel
theorem dX6_accept_37 : decode cX6_accept 37 = .ok (.ifCond .ne 10, 3) := by decide +kernel
theorem dX6_accept_40 : decode cX6_accept 40 = .ok (.aload_n 0, 1) := by decide +kernel
theorem dX6_accept_41 : decode cX6_accept 41 = .ok (.iconst 1, 1) := by decide +kernel
theorem dX6_accept_42 : decode cX6_accept 42 = .ok (.putfield 31, 3) := by decide +kernel
theorem dX6_accept_45 : decode cX6_accept 45 = .ok (.iconst 0, 1) := by decide +kernel
theorem dX6_accept_46 : decode cX6_accept 46 = .ok (.ireturn, 1) := by decide +kernel
theorem dX6_accept_47 : decode cX6_accept 47 = .ok (.aload_n 0, 1) := by decide +kernel
theorem dX6_accept_48 : decode cX6_accept 48 = .ok (.getfield 15, 3) := by decide +kernel
theorem dX6_accept_51 : decode cX6_accept 51 = .ok (.getfield 70, 3) := by decide +kernel
theorem dX6_accept_54 : decode cX6_accept 54 = .ok (.iconst 2, 1) := by decide +kernel
theorem dX6_accept_55 : decode cX6_accept 55 = .ok (.if_icmp .eq 5, 3) := by decide +kernel
theorem dX6_accept_58 : decode cX6_accept 58 = .ok (.iconst 1, 1) := by decide +kernel
theorem dX6_accept_59 : decode cX6_accept 59 = .ok (.ireturn, 1) := by decide +kernel
theorem dX6_accept_60 : decode cX6_accept 60 = .ok (.aload_n 0, 1) := by decide +kernel
theorem dX6_accept_61 : decode cX6_accept 61 = .ok (.getfield 15, 3) := by decide +kernel
theorem dX6_accept_64 : decode cX6_accept 64 = .ok (.getfield 73, 3) := by decide +kernel
theorem dX6_accept_67 : decode cX6_accept 67 = .ok (.iload_n 1, 1) := by decide +kernel
theorem dX6_accept_68 : decode cX6_accept 68 = .ok (.if_icmp .le 7, 3) := by decide +kernel
theorem dX6_accept_71 : decode cX6_accept 71 = .ok (.iconst 2, 1) := by decide +kernel
theorem dX6_accept_72 : decode cX6_accept 72 = .ok (.goto 14, 3) := by decide +kernel
theorem dX6_accept_75 : decode cX6_accept 75 = .ok (.aload_n 0, 1) := by decide +kernel
theorem dX6_accept_76 : decode cX6_accept 76 = .ok (.aload_n 0, 1) := by decide +kernel
theorem dX6_accept_77 : decode cX6_accept 77 = .ok (.getfield 15, 3) := by decide +kernel
theorem dX6_accept_80 : decode cX6_accept 80 = .ok (.getfield 73, 3) := by decide +kernel
theorem dX6_accept_83 : decode cX6_accept 83 = .ok (.invokevirtual 76, 3) := by decide +kernel
theorem dX6_accept_86 : decode cX6_accept 86 = .ok (.ireturn, 1) := by decide +kernel
theorem dX6_greatestArgument_0 : decode cX6_greatestArgument 0 = .ok (.aload_n 0, 1) := by decide +kernel
theorem dX6_greatestArgument_1 : decode cX6_greatestArgument 1 = .ok (.getfield 61, 3) := by decide +kernel
theorem dX6_greatestArgument_4 : decode cX6_greatestArgument 4 = .ok (.iconst 3, 1) := by decide +kernel
theorem dX6_greatestArgument_5 : decode cX6_greatestArgument 5 = .ok (.if_icmp .lt 5, 3) := by decide +kernel
theorem dX6_greatestArgument_8 : decode cX6_greatestArgument 8 = .ok (.iconst (-1), 1) := by decide +kernel
theorem dX6_greatestArgument_9 : decode cX6_greatestArgument 9 = .ok (.ireturn, 1) := by decide +kernel
theorem dX6_greatestArgument_10 : decode cX6_greatestArgument 10 = .ok (.getstatic 80, 3) := by decide +kernel
theorem dX6_greatestArgument_13 : decode cX6_greatestArgument 13 = .ok (.aload_n 0, 1) := by decide +kernel
theorem dX6_greatestArgument_14 : decode cX6_greatestArgument 14 = .ok (.aload_n 0, 1) := by decide +kernel
theorem dX6_greatestArgument_15 : decode cX6_greatestArgument 15 = .ok (.getfield 23, 3) := by decide +kernel
theorem dX6_greatestArgument_18 : decode cX6_greatestArgument 18 = .ok (.invokevirtual 83, 3) := by decide +kernel
theorem dX6_greatestArgument_21 : decode cX6_greatestArgument 21 = .ok (.iconst 3, 1) := by decide +kernel
theorem dX6_greatestArgument_22 : decode cX6_greatestArgument 22 = .ok (.isub, 1) := by decide +kernel
theorem dX6_greatestArgument_23 : decode cX6_greatestArgument 23 = .ok (.iconst 3, 1) := by decide +kernel
theorem dX6_greatestArgument_24 : decode cX6_greatestArgument 24 = .ok (.imul, 1) := by decide +kernel
theorem dX6_greatestArgument_25 : decode cX6_greatestArgument 25 = .ok (.aload_n 0, 1) := by decide +kernel
theorem dX6_greatestArgument_26 : decode cX6_greatestArgument 26 = .ok (.getfield 61, 3) := by decide +kernel
theorem dX6_greatestArgument_29 : decode cX6_greatestArgument 29 = .ok (.iadd, 1) := by decide +kernel
theorem dX6_greatestArgument_30 : decode cX6_greatestArgument 30 = .ok (.invokestatic 19, 3) := by decide +kernel
theorem dX6_greatestArgument_33 : decode cX6_greatestArgument 33 = .ok (.ireturn, 1) := by decide +kernel
theorem dX6_keep_0 : decode cX6_keep 0 = .ok (.aload_n 0, 1) := by decide +kernel
theorem dX6_keep_1 : decode cX6_keep 1 = .ok (.getfield 11, 3) := by decide +kernel
theorem dX6_keep_4 : decode cX6_keep 4 = .ok (.aload_n 0, 1) := by decide +kernel
theorem dX6_keep_5 : decode cX6_keep 5 = .ok (.getfield 23, 3) := by decide +kernel
theorem dX6_keep_8 : decode cX6_keep 8 = .ok (.iconst 4, 1) := by decide +kernel
theorem dX6_keep_9 : decode cX6_keep 9 = .ok (.imul, 1) := by decide +kernel
theorem dX6_keep_10 : decode cX6_keep 10 = .ok (.iconst 1, 1) := by decide +kernel
theorem dX6_keep_11 : decode cX6_keep 11 = .ok (.iadd, 1) := by decide +kernel
theorem dX6_keep_12 : decode cX6_keep 12 = .ok (.aload_n 0, 1) := by decide +kernel
theorem dX6_keep_13 : decode cX6_keep 13 = .ok (.getfield 61, 3) := by decide +kernel
theorem dX6_keep_16 : decode cX6_keep 16 = .ok (.iadd, 1) := by decide +kernel
theorem dX6_keep_17 : decode cX6_keep 17 = .ok (.aload_n 0, 1) := by decide +kernel
theorem dX6_keep_18 : decode cX6_keep 18 = .ok (.getfield 31, 3) := by decide +kernel
theorem dX6_keep_21 : decode cX6_keep 21 = .ok (.ifCond .eq 8, 3) := by decide +kernel
theorem dX6_keep_24 : decode cX6_keep 24 = .ok (.iload_n 1, 1) := by decide +kernel
theorem dX6_keep_25 : decode cX6_keep 25 = .ok (.ineg, 1) := by decide +kernel
theorem dX6_keep_26 : decode cX6_keep 26 = .ok (.goto 4, 3) := by decide +kernel
theorem dX6_keep_29 : decode cX6_keep 29 = .ok (.iload_n 1, 1) := by decide +kernel
theorem dX6_keep_30 : decode cX6_keep 30 = .ok (.invokestatic 57, 3) := by decide +kernel
theorem dX6_keep_33 : decode cX6_keep 33 = .ok (.aload_n 0, 1) := by decide +kernel
theorem dX6_keep_34 : decode cX6_keep 34 = .ok (.dup, 1) := by decide +kernel
theorem dX6_keep_35 : decode cX6_keep 35 = .ok (.getfield 61, 3) := by decide +kernel
theorem dX6_keep_38 : decode cX6_keep 38 = .ok (.iconst 1, 1) := by decide +kernel
theorem dX6_keep_39 : decode cX6_keep 39 = .ok (.iadd, 1) := by decide +kernel
theorem dX6_keep_40 : decode cX6_keep 40 = .ok (.putfield 61, 3) := by decide +kernel
theorem dX6_keep_43 : decode cX6_keep 43 = .ok (.aload_n 0, 1) := by decide +kernel
theorem dX6_keep_44 : decode cX6_keep 44 = .ok (.iconst 0, 1) := by decide +kernel
theorem dX6_keep_45 : decode cX6_keep 45 = .ok (.putfield 31, 3) := by decide +kernel
theorem dX6_keep_48 : decode cX6_keep 48 = .ok (.iconst 0, 1) := by decide +kernel
theorem dX6_keep_49 : decode cX6_keep 49 = .ok (.ireturn, 1) := by decide +kernel
theorem dX6_close_0 : decode cX6_close 0 = .ok (.aload_n 0, 1) := by decide +kernel
theorem dX6_close_1 : decode cX6_close 1 = .ok (.getfield 15, 3) := by decide +kernel
theorem dX6_close_4 : decode cX6_close 4 = .ok (.getfield 70, 3) := by decide +kernel
theorem dX6_close_7 : decode cX6_close 7 = .ok (.iconst 3, 1) := by decide +kernel
theorem dX6_close_8 : decode cX6_close 8 = .ok (.if_icmp .eq 5, 3) := by decide +kernel
theorem dX6_close_11 : decode cX6_close 11 = .ok (.iconst 1, 1) := by decide +kernel
theorem dX6_close_12 : decode cX6_close 12 = .ok (.ireturn, 1) := by decide +kernel
theorem dX6_close_13 : decode cX6_close 13 = .ok (.aload_n 0, 1) := by decide +kernel
theorem dX6_close_14 : decode cX6_close 14 = .ok (.iconst 0, 1) := by decide +kernel
theorem dX6_close_15 : decode cX6_close 15 = .ok (.putfield 27, 3) := by decide +kernel
theorem dX6_close_18 : decode cX6_close 18 = .ok (.aload_n 0, 1) := by decide +kernel
theorem dX6_close_19 : decode cX6_close 19 = .ok (.dup, 1) := by decide +kernel
theorem dX6_close_20 : decode cX6_close 20 = .ok (.getfield 23, 3) := by decide +kernel
theorem dX6_close_23 : decode cX6_close 23 = .ok (.iconst 1, 1) := by decide +kernel
theorem dX6_close_24 : decode cX6_close 24 = .ok (.iadd, 1) := by decide +kernel
theorem dX6_close_25 : decode cX6_close 25 = .ok (.putfield 23, 3) := by decide +kernel
theorem dX6_close_28 : decode cX6_close 28 = .ok (.iconst 0, 1) := by decide +kernel
theorem dX6_close_29 : decode cX6_close 29 = .ok (.ireturn, 1) := by decide +kernel
theorem dX7_init_0 : decode cX7_init 0 = .ok (.aload_n 0, 1) := by decide +kernel
theorem dX7_init_1 : decode cX7_init 1 = .ok (.invokespecial 3, 3) := by decide +kernel
theorem dX7_init_4 : decode cX7_init 4 = .ok (.aload_n 0, 1) := by decide +kernel
theorem dX7_init_5 : decode cX7_init 5 = .ok (.bipush 64, 2) := by decide +kernel
theorem dX7_init_7 : decode cX7_init 7 = .ok (.newarray .int, 2) := by decide +kernel
theorem dX7_init_9 : decode cX7_init 9 = .ok (.putfield 9, 3) := by decide +kernel
theorem dX7_init_12 : decode cX7_init 12 = .ok (.aload_n 0, 1) := by decide +kernel
theorem dX7_init_13 : decode cX7_init 13 = .ok (.aload_n 1, 1) := by decide +kernel
theorem dX7_init_14 : decode cX7_init 14 = .ok (.putfield 15, 3) := by decide +kernel
theorem dX7_init_17 : decode cX7_init 17 = .ok (.return_, 1) := by decide +kernel
theorem dX7_parse_0 : decode cX7_parse 0 = .ok (.aload_n 0, 1) := by decide +kernel
theorem dX7_parse_1 : decode cX7_parse 1 = .ok (.iconst 0, 1) := by decide +kernel
theorem dX7_parse_2 : decode cX7_parse 2 = .ok (.putfield 19, 3) := by decide +kernel
theorem dX7_parse_5 : decode cX7_parse 5 = .ok (.aload_n 0, 1) := by decide +kernel
theorem dX7_parse_6 : decode cX7_parse 6 = .ok (.iconst 0, 1) := by decide +kernel
theorem dX7_parse_7 : decode cX7_parse 7 = .ok (.putfield 23, 3) := by decide +kernel
theorem dX7_parse_10 : decode cX7_parse 10 = .ok (.aload_n 0, 1) := by decide +kernel
theorem dX7_parse_11 : decode cX7_parse 11 = .ok (.iconst 0, 1) := by decide +kernel
theorem dX7_parse_12 : decode cX7_parse 12 = .ok (.putfield 27, 3) := by decide +kernel
theorem dX7_parse_15 : decode cX7_parse 15 = .ok (.aload_n 0, 1) := by decide +kernel
theorem dX7_parse_16 : decode cX7_parse 16 = .ok (.getfield 15, 3) := by decide +kernel
theorem dX7_parse_19 : decode cX7_parse 19 = .ok (.invokevirtual 30, 3) := by decide +kernel
theorem dX7_parse_22 : decode cX7_parse 22 = .ok (.iconst 0, 1) := by decide +kernel
theorem dX7_parse_23 : decode cX7_parse 23 = .ok (.istore_n 1, 1) := by decide +kernel
theorem dX7_parse_24 : decode cX7_parse 24 = .ok (.iload_n 1, 1) := by decide +kernel
theorem dX7_parse_25 : decode cX7_parse 25 = .ok (.sipush 600, 3) := by decide +kernel
theorem dX7_parse_28 : decode cX7_parse 28 = .ok (.if_icmp .gt 51, 3) := by decide +kernel
theorem dX7_parse_31 : decode cX7_parse 31 = .ok (.aload_n 0, 1) := by decide +kernel
theorem dX7_parse_32 : decode cX7_parse 32 = .ok (.getfield 15, 3) := by decide +kernel
theorem dX7_parse_35 : decode cX7_parse 35 = .ok (.invokevirtual 35, 3) := by decide +kernel
theorem dX7_parse_38 : decode cX7_parse 38 = .ok (.ifCond .eq 41, 3) := by decide +kernel
theorem dX7_parse_41 : decode cX7_parse 41 = .ok (.aload_n 0, 1) := by decide +kernel
theorem dX7_parse_42 : decode cX7_parse 42 = .ok (.getfield 23, 3) := by decide +kernel
theorem dX7_parse_45 : decode cX7_parse 45 = .ok (.ifCond .eq 10, 3) := by decide +kernel
theorem dX7_parse_48 : decode cX7_parse 48 = .ok (.aload_n 0, 1) := by decide +kernel
theorem dX7_parse_49 : decode cX7_parse 49 = .ok (.invokevirtual 39, 3) := by decide +kernel
theorem dX7_parse_52 : decode cX7_parse 52 = .ok (.goto 7, 3) := by decide +kernel
theorem dX7_parse_55 : decode cX7_parse 55 = .ok (.aload_n 0, 1) := by decide +kernel
theorem dX7_parse_56 : decode cX7_parse 56 = .ok (.invokevirtual 43, 3) := by decide +kernel
theorem dX7_parse_59 : decode cX7_parse 59 = .ok (.istore_n 2, 1) := by decide +kernel
theorem dX7_parse_60 : decode cX7_parse 60 = .ok (.iload_n 2, 1) := by decide +kernel
theorem dX7_parse_61 : decode cX7_parse 61 = .ok (.ifCond .eq 12, 3) := by decide +kernel
theorem dX7_parse_64 : decode cX7_parse 64 = .ok (.aload_n 0, 1) := by decide +kernel
theorem dX7_parse_65 : decode cX7_parse 65 = .ok (.getfield 15, 3) := by decide +kernel
theorem dX7_parse_68 : decode cX7_parse 68 = .ok (.iload_n 2, 1) := by decide +kernel
theorem dX7_parse_69 : decode cX7_parse 69 = .ok (.invokevirtual 46, 3) := by decide +kernel
theorem dX7_parse_72 : decode cX7_parse 72 = .ok (.ireturn, 1) := by decide +kernel
theorem dX7_parse_73 : decode cX7_parse 73 = .ok (.iinc 1 1, 3) := by decide +kernel
theorem dX7_parse_76 : decode cX7_parse 76 = .ok (.goto (-52), 3) := by decide +kernel
theorem dX7_parse_79 : decode cX7_parse 79 = .ok (.aload_n 0, 1) := by decide +kernel
theorem dX7_parse_80 : decode cX7_parse 80 = .ok (.getfield 23, 3) := by decide +kernel
theorem dX7_parse_83 : decode cX7_parse 83 = .ok (.ifCond .eq 14, 3) := by decide +kernel
theorem dX7_parse_86 : decode cX7_parse 86 = .ok (.aload_n 0, 1) := by decide +kernel
theorem dX7_parse_87 : decode cX7_parse 87 = .ok (.getfield 15, 3) := by decide +kernel
theorem dX7_parse_90 : decode cX7_parse 90 = .ok (.iconst 1, 1) := by decide +kernel
theorem dX7_parse_91 : decode cX7_parse 91 = .ok (.invokevirtual 46, 3) := by decide +kernel
theorem dX7_parse_94 : decode cX7_parse 94 = .ok (.ifCond .eq 7, 3) := by decide +kernel
theorem dX7_parse_97 : decode cX7_parse 97 = .ok (.iconst 1, 1) := by decide +kernel
theorem dX7_parse_98 : decode cX7_parse 98 = .ok (.goto 4, 3) := by decide +kernel
theorem dX7_parse_101 : decode cX7_parse 101 = .ok (.iconst 0, 1) := by decide +kernel
theorem dX7_parse_102 : decode cX7_parse 102 = .ok (.ireturn, 1) := by decide +kernel
theorem dX7_open_0 : decode cX7_open 0 = .ok (.aload_n 0, 1) := by decide +kernel
theorem dX7_open_1 : decode cX7_open 1 = .ok (.iconst 1, 1) := by decide +kernel
theorem dX7_open_2 : decode cX7_open 2 = .ok (.putfield 23, 3) := by decide +kernel
theorem dX7_open_5 : decode cX7_open 5 = .ok (.aload_n 0, 1) := by decide +kernel
theorem dX7_open_6 : decode cX7_open 6 = .ok (.getfield 15, 3) := by decide +kernel
theorem dX7_open_9 : decode cX7_open 9 = .ok (.getfield 50, 3) := by decide +kernel
theorem dX7_open_12 : decode cX7_open 12 = .ok (.iconst 1, 1) := by decide +kernel
theorem dX7_open_13 : decode cX7_open 13 = .ok (.if_icmp .ne 7, 3) := by decide +kernel
theorem dX7_open_16 : decode cX7_open 16 = .ok (.iconst 0, 1) := by decide +kernel
theorem dX7_open_17 : decode cX7_open 17 = .ok (.goto 4, 3) := by decide +kernel
theorem dX7_open_20 : decode cX7_open 20 = .ok (.iconst 1, 1) := by decide +kernel
theorem dX7_open_21 : decode cX7_open 21 = .ok (.ireturn, 1) := by decide +kernel
theorem dX7_accept_0 : decode cX7_accept 0 = .ok (.aload_n 0, 1) := by decide +kernel
theorem dX7_accept_1 : decode cX7_accept 1 = .ok (.getfield 27, 3) := by decide +kernel
theorem dX7_accept_4 : decode cX7_accept 4 = .ok (.ifCond .eq 31, 3) := by decide +kernel
theorem dX7_accept_7 : decode cX7_accept 7 = .ok (.aload_n 0, 1) := by decide +kernel
theorem dX7_accept_8 : decode cX7_accept 8 = .ok (.getfield 15, 3) := by decide +kernel
theorem dX7_accept_11 : decode cX7_accept 11 = .ok (.getfield 53, 3) := by decide +kernel
theorem dX7_accept_14 : decode cX7_accept 14 = .ok (.iconst 2, 1) := by decide +kernel
theorem dX7_accept_15 : decode cX7_accept 15 = .ok (.if_icmp .ne 18, 3) := by decide +kernel
theorem dX7_accept_18 : decode cX7_accept 18 = .ok (.aload_n 0, 1) := by decide +kernel
theorem dX7_accept_19 : decode cX7_accept 19 = .ok (.aload_n 0, 1) := by decide +kernel
theorem dX7_accept_20 : decode cX7_accept 20 = .ok (.getfield 15, 3) := by decide +kernel
theorem dX7_accept_23 : decode cX7_accept 23 = .ok (.getfield 56, 3) := by decide +kernel
theorem dX7_accept_26 : decode cX7_accept 26 = .ok (.ineg, 1) := by decide +kernel
theorem dX7_accept_27 : decode cX7_accept 27 = .ok (.invokevirtual 59, 3) := by decide +kernel
theorem dX7_accept_30 : decode cX7_accept 30 = .ok (.goto 4, 3) := by decide +kernel
theorem dX7_accept_33 : decode cX7_accept 33 = .ok (.iconst 1, 1) := by decide +kernel
theorem dX7_accept_34 : decode cX7_accept 34 = .ok (.ireturn, 1) := by decide +kernel
theorem dX7_accept_35 : decode cX7_accept 35 = .ok (.aload_n 0, 1) := by decide +kernel
theorem dX7_accept_36 : decode cX7_accept 36 = .ok (.getfield 15, 3) := by decide +kernel
theorem dX7_accept_39 : decode cX7_accept 39 = .ok (.getfield 53, 3) := by decide +kernel
theorem dX7_accept_42 : decode cX7_accept 42 = .ok (.iconst 3, 1) := by decide +kernel
theorem dX7_accept_43 : decode cX7_accept 43 = .ok (.if_icmp .ne 10, 3) := by decide +kernel
theorem dX7_accept_46 : decode cX7_accept 46 = .ok (.aload_n 0, 1) := by decide +kernel
theorem dX7_accept_47 : decode cX7_accept 47 = .ok (.iconst 0, 1) := by decide +kernel
theorem dX7_accept_48 : decode cX7_accept 48 = .ok (.putfield 23, 3) := by decide +kernel
theorem dX7_accept_51 : decode cX7_accept 51 = .ok (.iconst 0, 1) := by decide +kernel
theorem dX7_accept_52 : decode cX7_accept 52 = .ok (.ireturn, 1) := by decide +kernel
theorem dX7_accept_53 : decode cX7_accept 53 = .ok (.aload_n 0, 1) := by decide +kernel
theorem dX7_accept_54 : decode cX7_accept 54 = .ok (.getfield 15, 3) := by decide +kernel
theorem dX7_accept_57 : decode cX7_accept 57 = .ok (.getfield 53, 3) := by decide +kernel
theorem dX7_accept_60 : decode cX7_accept 60 = .ok (.iconst 2, 1) := by decide +kernel
theorem dX7_accept_61 : decode cX7_accept 61 = .ok (.if_icmp .eq 16, 3) := by decide +kernel
theorem dX7_accept_64 : decode cX7_accept 64 = .ok (.aload_n 0, 1) := by decide +kernel
theorem dX7_accept_65 : decode cX7_accept 65 = .ok (.getfield 15, 3) := by decide +kernel
theorem dX7_accept_68 : decode cX7_accept 68 = .ok (.getfield 50, 3) := by decide +kernel
theorem dX7_accept_71 : decode cX7_accept 71 = .ok (.iconst 2, 1) := by decide +kernel
theorem dX7_accept_72 : decode cX7_accept 72 = .ok (.if_icmp .eq 5, 3) := by decide +kernel
theorem dX7_accept_75 : decode cX7_accept 75 = .ok (.iconst 1, 1) := by decide +kernel
theorem dX7_accept_76 : decode cX7_accept 76 = .ok (.ireturn, 1) := by decide +kernel
theorem dX7_accept_77 : decode cX7_accept 77 = .ok (.aload_n 0, 1) := by decide +kernel
theorem dX7_accept_78 : decode cX7_accept 78 = .ok (.getfield 19, 3) := by decide +kernel
theorem dX7_accept_81 : decode cX7_accept 81 = .ok (.bipush 64, 2) := by decide +kernel
theorem dX7_accept_83 : decode cX7_accept 83 = .ok (.if_icmp .lt 5, 3) := by decide +kernel
theorem dX7_accept_86 : decode cX7_accept 86 = .ok (.iconst 3, 1) := by decide +kernel
theorem dX7_accept_87 : decode cX7_accept 87 = .ok (.ireturn, 1) := by decide +kernel
theorem dX7_accept_88 : decode cX7_accept 88 = .ok (.aload_n 0, 1) := by decide +kernel
theorem dX7_accept_89 : decode cX7_accept 89 = .ok (.aload_n 0, 1) := by decide +kernel
theorem dX7_accept_90 : decode cX7_accept 90 = .ok (.getfield 15, 3) := by decide +kernel
theorem dX7_accept_93 : decode cX7_accept 93 = .ok (.getfield 50, 3) := by decide +kernel
theorem dX7_accept_96 : decode cX7_accept 96 = .ok (.iconst 2, 1) := by decide +kernel
theorem dX7_accept_97 : decode cX7_accept 97 = .ok (.if_icmp .ne 7, 3) := by decide +kernel
theorem dX7_accept_100 : decode cX7_accept 100 = .ok (.iconst 1, 1) := by decide +kernel
theorem dX7_accept_101 : decode cX7_accept 101 = .ok (.goto 4, 3) := by decide +kernel
theorem dX7_accept_104 : decode cX7_accept 104 = .ok (.iconst 0, 1) := by decide +kernel
theorem dX7_accept_105 : decode cX7_accept 105 = .ok (.putfield 27, 3) := by decide +kernel
theorem dX7_accept_108 : decode cX7_accept 108 = .ok (.aload_n 0, 1) := by decide +kernel
theorem dX7_accept_109 : decode cX7_accept 109 = .ok (.getfield 27, 3) := by decide +kernel
theorem dX7_accept_112 : decode cX7_accept 112 = .ok (.ifCond .eq 7, 3) := by decide +kernel
theorem dX7_accept_115 : decode cX7_accept 115 = .ok (.iconst 0, 1) := by decide +kernel
theorem dX7_accept_116 : decode cX7_accept 116 = .ok (.goto 14, 3) := by decide +kernel
theorem dX7_accept_119 : decode cX7_accept 119 = .ok (.aload_n 0, 1) := by decide +kernel
theorem dX7_accept_120 : decode cX7_accept 120 = .ok (.aload_n 0, 1) := by decide +kernel
theorem dX7_accept_121 : decode cX7_accept 121 = .ok (.getfield 15, 3) := by decide +kernel
theorem dX7_accept_124 : decode cX7_accept 124 = .ok (.getfield 56, 3) := by decide +kernel
theorem dX7_accept_127 : decode cX7_accept 127 = .ok (.invokevirtual 59, 3) := by decide +kernel
theorem dX7_accept_130 : decode cX7_accept 130 = .ok (.ireturn, 1) := by decide +kernel
theorem dX7_keep_0 : decode cX7_keep 0 = .ok (.aload_n 0, 1) := by decide +kernel
theorem dX7_keep_1 : decode cX7_keep 1 = .ok (.getfield 9, 3) := by decide +kernel
theorem dX7_keep_4 : decode cX7_keep 4 = .ok (.aload_n 0, 1) := by decide +kernel
theorem dX7_keep_5 : decode cX7_keep 5 = .ok (.getfield 19, 3) := by decide +kernel
theorem dX7_keep_8 : decode cX7_keep 8 = .ok (.iload_n 1, 1) := by decide +kernel
theorem dX7_keep_9 : decode cX7_keep 9 = .ok (.invokestatic 63, 3) := by decide +kernel
theorem dX7_keep_12 : decode cX7_keep 12 = .ok (.aload_n 0, 1) := by decide +kernel
theorem dX7_keep_13 : decode cX7_keep 13 = .ok (.dup, 1) := by decide +kernel
theorem dX7_keep_14 : decode cX7_keep 14 = .ok (.getfield 19, 3) := by decide +kernel
theorem dX7_keep_17 : decode cX7_keep 17 = .ok (.iconst 1, 1) := by decide +kernel
theorem dX7_keep_18 : decode cX7_keep 18 = .ok (.iadd, 1) := by decide +kernel
theorem dX7_keep_19 : decode cX7_keep 19 = .ok (.putfield 19, 3) := by decide +kernel
theorem dX7_keep_22 : decode cX7_keep 22 = .ok (.aload_n 0, 1) := by decide +kernel
theorem dX7_keep_23 : decode cX7_keep 23 = .ok (.iconst 0, 1) := by decide +kernel
theorem dX7_keep_24 : decode cX7_keep 24 = .ok (.putfield 27, 3) := by decide +kernel
theorem dX7_keep_27 : decode cX7_keep 27 = .ok (.iconst 0, 1) := by decide +kernel
theorem dX7_keep_28 : decode cX7_keep 28 = .ok (.ireturn, 1) := by decide +kernel
theorem dX8_init_0 : decode cX8_init 0 = .ok (.aload_n 0, 1) := by decide +kernel
theorem dX8_init_1 : decode cX8_init 1 = .ok (.invokespecial 3, 3) := by decide +kernel
theorem dX8_init_4 : decode cX8_init 4 = .ok (.aload_n 0, 1) := by decide +kernel
theorem dX8_init_5 : decode cX8_init 5 = .ok (.new 9, 3) := by decide +kernel
theorem dX8_init_8 : decode cX8_init 8 = .ok (.dup, 1) := by decide +kernel
theorem dX8_init_9 : decode cX8_init 9 = .ok (.invokespecial 11, 3) := by decide +kernel
theorem dX8_init_12 : decode cX8_init 12 = .ok (.putfield 12, 3) := by decide +kernel
theorem dX8_init_15 : decode cX8_init 15 = .ok (.aload_n 0, 1) := by decide +kernel
theorem dX8_init_16 : decode cX8_init 16 = .ok (.new 18, 3) := by decide +kernel
theorem dX8_init_19 : decode cX8_init 19 = .ok (.dup, 1) := by decide +kernel
theorem dX8_init_20 : decode cX8_init 20 = .ok (.invokespecial 20, 3) := by decide +kernel
theorem dX8_init_23 : decode cX8_init 23 = .ok (.putfield 21, 3) := by decide +kernel
theorem dX8_init_26 : decode cX8_init 26 = .ok (.return_, 1) := by decide +kernel
theorem dX8_copyFrom_0 : decode cX8_copyFrom 0 = .ok (.aload_n 0, 1) := by decide +kernel
theorem dX8_copyFrom_1 : decode cX8_copyFrom 1 = .ok (.getfield 12, 3) := by decide +kernel
theorem dX8_copyFrom_4 : decode cX8_copyFrom 4 = .ok (.aload_n 1, 1) := by decide +kernel
theorem dX8_copyFrom_5 : decode cX8_copyFrom 5 = .ok (.getfield 12, 3) := by decide +kernel
theorem dX8_copyFrom_8 : decode cX8_copyFrom 8 = .ok (.invokevirtual 25, 3) := by decide +kernel
theorem dX8_copyFrom_11 : decode cX8_copyFrom 11 = .ok (.aload_n 0, 1) := by decide +kernel
theorem dX8_copyFrom_12 : decode cX8_copyFrom 12 = .ok (.getfield 21, 3) := by decide +kernel
theorem dX8_copyFrom_15 : decode cX8_copyFrom 15 = .ok (.aload_n 1, 1) := by decide +kernel
theorem dX8_copyFrom_16 : decode cX8_copyFrom 16 = .ok (.getfield 21, 3) := by decide +kernel
theorem dX8_copyFrom_19 : decode cX8_copyFrom 19 = .ok (.invokevirtual 29, 3) := by decide +kernel
theorem dX8_copyFrom_22 : decode cX8_copyFrom 22 = .ok (.return_, 1) := by decide +kernel
theorem dX8_begin_0 : decode cX8_begin 0 = .ok (.aload_n 0, 1) := by decide +kernel
theorem dX8_begin_1 : decode cX8_begin 1 = .ok (.getfield 12, 3) := by decide +kernel
theorem dX8_begin_4 : decode cX8_begin 4 = .ok (.iconst 0, 1) := by decide +kernel
theorem dX8_begin_5 : decode cX8_begin 5 = .ok (.putfield 32, 3) := by decide +kernel
theorem dX8_begin_8 : decode cX8_begin 8 = .ok (.aload_n 0, 1) := by decide +kernel
theorem dX8_begin_9 : decode cX8_begin 9 = .ok (.aload_n 1, 1) := by decide +kernel
theorem dX8_begin_10 : decode cX8_begin 10 = .ok (.iload_n 2, 1) := by decide +kernel
theorem dX8_begin_11 : decode cX8_begin 11 = .ok (.invokevirtual 36, 3) := by decide +kernel
theorem dX8_begin_14 : decode cX8_begin 14 = .ok (.iconst 0, 1) := by decide +kernel
theorem dX8_begin_15 : decode cX8_begin 15 = .ok (.istore_n 3, 1) := by decide +kernel
theorem dX8_begin_16 : decode cX8_begin 16 = .ok (.iconst 2, 1) := by decide +kernel
theorem dX8_begin_17 : decode cX8_begin 17 = .ok (.istore 4, 2) := by decide +kernel
theorem dX8_begin_19 : decode cX8_begin 19 = .ok (.iload 4, 2) := by decide +kernel
theorem dX8_begin_21 : decode cX8_begin 21 = .ok (.iload_n 2, 1) := by decide +kernel
theorem dX8_begin_22 : decode cX8_begin 22 = .ok (.invokestatic 40, 3) := by decide +kernel
theorem dX8_begin_25 : decode cX8_begin 25 = .ok (.if_icmp .gt 30, 3) := by decide +kernel
theorem dX8_begin_28 : decode cX8_begin 28 = .ok (.aload_n 0, 1) := by decide +kernel
theorem dX8_begin_29 : decode cX8_begin 29 = .ok (.getfield 12, 3) := by decide +kernel
theorem dX8_begin_32 : decode cX8_begin 32 = .ok (.getfield 32, 3) := by decide +kernel
theorem dX8_begin_35 : decode cX8_begin 35 = .ok (.istore 5, 2) := by decide +kernel
theorem dX8_begin_37 : decode cX8_begin 37 = .ok (.aload_n 0, 1) := by decide +kernel
theorem dX8_begin_38 : decode cX8_begin 38 = .ok (.iload 4, 2) := by decide +kernel
theorem dX8_begin_40 : decode cX8_begin 40 = .ok (.iload_n 3, 1) := by decide +kernel
theorem dX8_begin_41 : decode cX8_begin 41 = .ok (.iload 5, 2) := by decide +kernel
theorem dX8_begin_43 : decode cX8_begin 43 = .ok (.invokevirtual 44, 3) := by decide +kernel
theorem dX8_begin_46 : decode cX8_begin 46 = .ok (.iload 5, 2) := by decide +kernel
theorem dX8_begin_48 : decode cX8_begin 48 = .ok (.istore_n 3, 1) := by decide +kernel
theorem dX8_begin_49 : decode cX8_begin 49 = .ok (.iinc 4 1, 3) := by decide +kernel
theorem dX8_begin_52 : decode cX8_begin 52 = .ok (.goto (-33), 3) := by decide +kernel
theorem dX8_begin_55 : decode cX8_begin 55 = .ok (.iload_n 2, 1) := by decide +kernel
theorem dX8_begin_56 : decode cX8_begin 56 = .ok (.ifCond .ne 7, 3) := by decide +kernel
theorem dX8_begin_59 : decode cX8_begin 59 = .ok (.iconst (-1), 1) := by decide +kernel
theorem dX8_begin_60 : decode cX8_begin 60 = .ok (.goto 12, 3) := by decide +kernel
theorem dX8_begin_63 : decode cX8_begin 63 = .ok (.aload_n 0, 1) := by decide +kernel
theorem dX8_begin_64 : decode cX8_begin 64 = .ok (.getfield 12, 3) := by decide +kernel
theorem dX8_begin_67 : decode cX8_begin 67 = .ok (.getfield 32, 3) := by decide +kernel
theorem dX8_begin_70 : decode cX8_begin 70 = .ok (.iconst 1, 1) := by decide +kernel
theorem dX8_begin_71 : decode cX8_begin 71 = .ok (.isub, 1) := by decide +kernel
theorem dX8_begin_72 : decode cX8_begin 72 = .ok (.istore 4, 2) := by decide +kernel
theorem dX8_begin_74 : decode cX8_begin 74 = .ok (.aload_n 0, 1) := by decide +kernel
theorem dX8_begin_75 : decode cX8_begin 75 = .ok (.getfield 21, 3) := by decide +kernel
theorem dX8_begin_78 : decode cX8_begin 78 = .ok (.aload_n 1, 1) := by decide +kernel
theorem dX8_begin_79 : decode cX8_begin 79 = .ok (.iload_n 2, 1) := by decide +kernel
theorem dX8_begin_80 : decode cX8_begin 80 = .ok (.iload 4, 2) := by decide +kernel
theorem dX8_begin_82 : decode cX8_begin 82 = .ok (.aload_n 0, 1) := by decide +kernel
theorem dX8_begin_83 : decode cX8_begin 83 = .ok (.getfield 12, 3) := by decide +kernel
theorem dX8_begin_86 : decode cX8_begin 86 = .ok (.getfield 32, 3) := by decide +kernel
theorem dX8_begin_89 : decode cX8_begin 89 = .ok (.invokevirtual 48, 3) := by decide +kernel
theorem dX8_begin_92 : decode cX8_begin 92 = .ok (.return_, 1) := by decide +kernel
theorem dX8_addLeaves_0 : decode cX8_addLeaves 0 = .ok (.iconst (-1), 1) := by decide +kernel
theorem dX8_addLeaves_1 : decode cX8_addLeaves 1 = .ok (.istore_n 3, 1) := by decide +kernel
theorem dX8_addLeaves_2 : decode cX8_addLeaves 2 = .ok (.iconst 0, 1) := by decide +kernel
theorem dX8_addLeaves_3 : decode cX8_addLeaves 3 = .ok (.istore 4, 2) := by decide +kernel
theorem dX8_addLeaves_5 : decode cX8_addLeaves 5 = .ok (.iload 4, 2) := by decide +kernel
theorem dX8_addLeaves_7 : decode cX8_addLeaves 7 = .ok (.iload_n 2, 1) := by decide +kernel
theorem dX8_addLeaves_8 : decode cX8_addLeaves 8 = .ok (.if_icmp .ge 47, 3) := by decide +kernel
theorem dX8_addLeaves_11 : decode cX8_addLeaves 11 = .ok (.iconst 1, 1) := by decide +kernel
theorem dX8_addLeaves_12 : decode cX8_addLeaves 12 = .ok (.iload 4, 2) := by decide +kernel
theorem dX8_addLeaves_14 : decode cX8_addLeaves 14 = .ok (.invokestatic 52, 3) := by decide +kernel
theorem dX8_addLeaves_17 : decode cX8_addLeaves 17 = .ok (.istore 5, 2) := by decide +kernel
theorem dX8_addLeaves_19 : decode cX8_addLeaves 19 = .ok (.iload 5, 2) := by decide +kernel
theorem dX8_addLeaves_21 : decode cX8_addLeaves 21 = .ok (.ifCond .ne 12, 3) := by decide +kernel
theorem dX8_addLeaves_24 : decode cX8_addLeaves 24 = .ok (.aload_n 0, 1) := by decide +kernel
theorem dX8_addLeaves_25 : decode cX8_addLeaves 25 = .ok (.getfield 12, 3) := by decide +kernel
theorem dX8_addLeaves_28 : decode cX8_addLeaves 28 = .ok (.iconst 1, 1) := by decide +kernel
theorem dX8_addLeaves_29 : decode cX8_addLeaves 29 = .ok (.invokevirtual 56, 3) := by decide +kernel
theorem dX8_addLeaves_32 : decode cX8_addLeaves 32 = .ok (.istore_n 3, 1) := by decide +kernel
theorem dX8_addLeaves_33 : decode cX8_addLeaves 33 = .ok (.aload_n 0, 1) := by decide +kernel
theorem dX8_addLeaves_34 : decode cX8_addLeaves 34 = .ok (.getfield 12, 3) := by decide +kernel
theorem dX8_addLeaves_37 : decode cX8_addLeaves 37 = .ok (.iload_n 3, 1) := by decide +kernel
theorem dX8_addLeaves_38 : decode cX8_addLeaves 38 = .ok (.iload 5, 2) := by decide +kernel
theorem dX8_addLeaves_40 : decode cX8_addLeaves 40 = .ok (.aload_n 1, 1) := by decide +kernel
theorem dX8_addLeaves_41 : decode cX8_addLeaves 41 = .ok (.iload 4, 2) := by decide +kernel
theorem dX8_addLeaves_43 : decode cX8_addLeaves 43 = .ok (.invokestatic 59, 3) := by decide +kernel
theorem dX8_addLeaves_46 : decode cX8_addLeaves 46 = .ok (.invokevirtual 63, 3) := by decide +kernel
theorem dX8_addLeaves_49 : decode cX8_addLeaves 49 = .ok (.iinc 4 1, 3) := by decide +kernel
theorem dX8_addLeaves_52 : decode cX8_addLeaves 52 = .ok (.goto (-47), 3) := by decide +kernel
theorem dX8_addLeaves_55 : decode cX8_addLeaves 55 = .ok (.return_, 1) := by decide +kernel
theorem dX8_addParents_0 : decode cX8_addParents 0 = .ok (.iconst (-1), 1) := by decide +kernel
theorem dX8_addParents_1 : decode cX8_addParents 1 = .ok (.istore 4, 2) := by decide +kernel
theorem dX8_addParents_3 : decode cX8_addParents 3 = .ok (.iload_n 2, 1) := by decide +kernel
theorem dX8_addParents_4 : decode cX8_addParents 4 = .ok (.istore 5, 2) := by decide +kernel
theorem dX8_addParents_6 : decode cX8_addParents 6 = .ok (.iload 5, 2) := by decide +kernel
theorem dX8_addParents_8 : decode cX8_addParents 8 = .ok (.iload_n 3, 1) := by decide +kernel
theorem dX8_addParents_9 : decode cX8_addParents 9 = .ok (.if_icmp .ge 47, 3) := by decide +kernel
theorem dX8_addParents_12 : decode cX8_addParents 12 = .ok (.iconst 1, 1) := by decide +kernel
theorem dX8_addParents_13 : decode cX8_addParents 13 = .ok (.iload 5, 2) := by decide +kernel
theorem dX8_addParents_15 : decode cX8_addParents 15 = .ok (.iload_n 2, 1) := by decide +kernel
theorem dX8_addParents_16 : decode cX8_addParents 16 = .ok (.isub, 1) := by decide +kernel
theorem dX8_addParents_17 : decode cX8_addParents 17 = .ok (.invokestatic 52, 3) := by decide +kernel
theorem dX8_addParents_20 : decode cX8_addParents 20 = .ok (.istore 6, 2) := by decide +kernel
theorem dX8_addParents_22 : decode cX8_addParents 22 = .ok (.iload 6, 2) := by decide +kernel
theorem dX8_addParents_24 : decode cX8_addParents 24 = .ok (.ifCond .ne 13, 3) := by decide +kernel
theorem dX8_addParents_27 : decode cX8_addParents 27 = .ok (.aload_n 0, 1) := by decide +kernel
theorem dX8_addParents_28 : decode cX8_addParents 28 = .ok (.getfield 12, 3) := by decide +kernel
theorem dX8_addParents_31 : decode cX8_addParents 31 = .ok (.iload_n 1, 1) := by decide +kernel
theorem dX8_addParents_32 : decode cX8_addParents 32 = .ok (.invokevirtual 56, 3) := by decide +kernel
theorem dX8_addParents_35 : decode cX8_addParents 35 = .ok (.istore 4, 2) := by decide +kernel
theorem dX8_addParents_37 : decode cX8_addParents 37 = .ok (.aload_n 0, 1) := by decide +kernel
theorem dX8_addParents_38 : decode cX8_addParents 38 = .ok (.getfield 12, 3) := by decide +kernel
theorem dX8_addParents_41 : decode cX8_addParents 41 = .ok (.iload 4, 2) := by decide +kernel
theorem dX8_addParents_43 : decode cX8_addParents 43 = .ok (.iload 6, 2) := by decide +kernel
theorem dX8_addParents_45 : decode cX8_addParents 45 = .ok (.iload 5, 2) := by decide +kernel
theorem dX8_addParents_47 : decode cX8_addParents 47 = .ok (.invokevirtual 63, 3) := by decide +kernel
theorem dX8_addParents_50 : decode cX8_addParents 50 = .ok (.iinc 5 1, 3) := by decide +kernel
theorem dX8_addParents_53 : decode cX8_addParents 53 = .ok (.goto (-47), 3) := by decide +kernel
theorem dX8_addParents_56 : decode cX8_addParents 56 = .ok (.return_, 1) := by decide +kernel
theorem dX8_heightAt_0 : decode cX8_heightAt 0 = .ok (.aload_n 0, 1) := by decide +kernel
theorem dX8_heightAt_1 : decode cX8_heightAt 1 = .ok (.getfield 21, 3) := by decide +kernel
theorem dX8_heightAt_4 : decode cX8_heightAt 4 = .ok (.iload_n 1, 1) := by decide +kernel
theorem dX8_heightAt_5 : decode cX8_heightAt 5 = .ok (.invokevirtual 66, 3) := by decide +kernel
theorem dX8_heightAt_8 : decode cX8_heightAt 8 = .ok (.invokestatic 40, 3) := by decide +kernel
theorem dX8_heightAt_11 : decode cX8_heightAt 11 = .ok (.ireturn, 1) := by decide +kernel
theorem dX8_leafAt_0 : decode cX8_leafAt 0 = .ok (.aload_n 0, 1) := by decide +kernel
theorem dX8_leafAt_1 : decode cX8_leafAt 1 = .ok (.getfield 21, 3) := by decide +kernel
theorem dX8_leafAt_4 : decode cX8_leafAt 4 = .ok (.iload_n 1, 1) := by decide +kernel
theorem dX8_leafAt_5 : decode cX8_leafAt 5 = .ok (.invokevirtual 69, 3) := by decide +kernel
theorem dX8_leafAt_8 : decode cX8_leafAt 8 = .ok (.istore_n 3, 1) := by decide +kernel
theorem dX8_leafAt_9 : decode cX8_leafAt 9 = .ok (.aload_n 0, 1) := by decide +kernel
theorem dX8_leafAt_10 : decode cX8_leafAt 10 = .ok (.iload_n 1, 1) := by decide +kernel
theorem dX8_leafAt_11 : decode cX8_leafAt 11 = .ok (.invokevirtual 72, 3) := by decide +kernel
theorem dX8_leafAt_14 : decode cX8_leafAt 14 = .ok (.istore 4, 2) := by decide +kernel
theorem dX8_leafAt_16 : decode cX8_leafAt 16 = .ok (.iload 4, 2) := by decide +kernel
theorem dX8_leafAt_18 : decode cX8_leafAt 18 = .ok (.iconst 1, 1) := by decide +kernel
theorem dX8_leafAt_19 : decode cX8_leafAt 19 = .ok (.if_icmp .le 24, 3) := by decide +kernel
theorem dX8_leafAt_22 : decode cX8_leafAt 22 = .ok (.aload_n 0, 1) := by decide +kernel
theorem dX8_leafAt_23 : decode cX8_leafAt 23 = .ok (.getfield 12, 3) := by decide +kernel
theorem dX8_leafAt_26 : decode cX8_leafAt 26 = .ok (.iload_n 3, 1) := by decide +kernel
theorem dX8_leafAt_27 : decode cX8_leafAt 27 = .ok (.iload 4, 2) := by decide +kernel
theorem dX8_leafAt_29 : decode cX8_leafAt 29 = .ok (.iload_n 2, 1) := by decide +kernel
theorem dX8_leafAt_30 : decode cX8_leafAt 30 = .ok (.invokestatic 52, 3) := by decide +kernel
theorem dX8_leafAt_33 : decode cX8_leafAt 33 = .ok (.invokevirtual 75, 3) := by decide +kernel
theorem dX8_leafAt_36 : decode cX8_leafAt 36 = .ok (.istore_n 3, 1) := by decide +kernel
theorem dX8_leafAt_37 : decode cX8_leafAt 37 = .ok (.iinc 4 (-1), 3) := by decide +kernel
theorem dX8_leafAt_40 : decode cX8_leafAt 40 = .ok (.goto (-24), 3) := by decide +kernel
theorem dX8_leafAt_43 : decode cX8_leafAt 43 = .ok (.iload_n 3, 1) := by decide +kernel
theorem dX8_leafAt_44 : decode cX8_leafAt 44 = .ok (.ireturn, 1) := by decide +kernel
theorem dX8_elementAt_0 : decode cX8_elementAt 0 = .ok (.aload_n 0, 1) := by decide +kernel
theorem dX8_elementAt_1 : decode cX8_elementAt 1 = .ok (.getfield 12, 3) := by decide +kernel
theorem dX8_elementAt_4 : decode cX8_elementAt 4 = .ok (.aload_n 0, 1) := by decide +kernel
theorem dX8_elementAt_5 : decode cX8_elementAt 5 = .ok (.iload_n 1, 1) := by decide +kernel
theorem dX8_elementAt_6 : decode cX8_elementAt 6 = .ok (.iload_n 2, 1) := by decide +kernel
theorem dX8_elementAt_7 : decode cX8_elementAt 7 = .ok (.invokevirtual 78, 3) := by decide +kernel
theorem dX8_elementAt_10 : decode cX8_elementAt 10 = .ok (.iconst 1, 1) := by decide +kernel
theorem dX8_elementAt_11 : decode cX8_elementAt 11 = .ok (.iload_n 2, 1) := by decide +kernel
theorem dX8_elementAt_12 : decode cX8_elementAt 12 = .ok (.invokestatic 52, 3) := by decide +kernel
theorem dX8_elementAt_15 : decode cX8_elementAt 15 = .ok (.invokevirtual 75, 3) := by decide +kernel
theorem dX8_elementAt_18 : decode cX8_elementAt 18 = .ok (.ireturn, 1) := by decide +kernel
theorem dX8_addUp_0 : decode cX8_addUp 0 = .ok (.iconst 0, 1) := by decide +kernel
theorem dX8_addUp_1 : decode cX8_addUp 1 = .ok (.istore_n 2, 1) := by decide +kernel
theorem dX8_addUp_2 : decode cX8_addUp 2 = .ok (.iconst 0, 1) := by decide +kernel
theorem dX8_addUp_3 : decode cX8_addUp 3 = .ok (.istore_n 3, 1) := by decide +kernel
theorem dX8_addUp_4 : decode cX8_addUp 4 = .ok (.iload_n 3, 1) := by decide +kernel
theorem dX8_addUp_5 : decode cX8_addUp 5 = .ok (.aload_n 0, 1) := by decide +kernel
theorem dX8_addUp_6 : decode cX8_addUp 6 = .ok (.getfield 21, 3) := by decide +kernel
theorem dX8_addUp_9 : decode cX8_addUp 9 = .ok (.iload_n 1, 1) := by decide +kernel
theorem dX8_addUp_10 : decode cX8_addUp 10 = .ok (.invokevirtual 66, 3) := by decide +kernel
theorem dX8_addUp_13 : decode cX8_addUp 13 = .ok (.if_icmp .ge 18, 3) := by decide +kernel
theorem dX8_addUp_16 : decode cX8_addUp 16 = .ok (.iload_n 2, 1) := by decide +kernel
theorem dX8_addUp_17 : decode cX8_addUp 17 = .ok (.aload_n 0, 1) := by decide +kernel
theorem dX8_addUp_18 : decode cX8_addUp 18 = .ok (.iload_n 1, 1) := by decide +kernel
theorem dX8_addUp_19 : decode cX8_addUp 19 = .ok (.iload_n 3, 1) := by decide +kernel
theorem dX8_addUp_20 : decode cX8_addUp 20 = .ok (.invokevirtual 81, 3) := by decide +kernel
theorem dX8_addUp_23 : decode cX8_addUp 23 = .ok (.iadd, 1) := by decide +kernel
theorem dX8_addUp_24 : decode cX8_addUp 24 = .ok (.istore_n 2, 1) := by decide +kernel
theorem dX8_addUp_25 : decode cX8_addUp 25 = .ok (.iinc 3 1, 3) := by decide +kernel
theorem dX8_addUp_28 : decode cX8_addUp 28 = .ok (.goto (-24), 3) := by decide +kernel
theorem dX8_addUp_31 : decode cX8_addUp 31 = .ok (.iload_n 2, 1) := by decide +kernel
theorem dX8_addUp_32 : decode cX8_addUp 32 = .ok (.ireturn, 1) := by decide +kernel
theorem dX8_find_0 : decode cX8_find 0 = .ok (.iconst 0, 1) := by decide +kernel
theorem dX8_find_1 : decode cX8_find 1 = .ok (.istore_n 3, 1) := by decide +kernel
theorem dX8_find_2 : decode cX8_find 2 = .ok (.iload_n 3, 1) := by decide +kernel
theorem dX8_find_3 : decode cX8_find 3 = .ok (.aload_n 0, 1) := by decide +kernel
theorem dX8_find_4 : decode cX8_find 4 = .ok (.getfield 21, 3) := by decide +kernel
theorem dX8_find_7 : decode cX8_find 7 = .ok (.iload_n 1, 1) := by decide +kernel
theorem dX8_find_8 : decode cX8_find 8 = .ok (.invokevirtual 66, 3) := by decide +kernel
theorem dX8_find_11 : decode cX8_find 11 = .ok (.if_icmp .ge 21, 3) := by decide +kernel
theorem dX8_find_14 : decode cX8_find 14 = .ok (.aload_n 0, 1) := by decide +kernel
theorem dX8_find_15 : decode cX8_find 15 = .ok (.iload_n 1, 1) := by decide +kernel
theorem dX8_find_16 : decode cX8_find 16 = .ok (.iload_n 3, 1) := by decide +kernel
theorem dX8_find_17 : decode cX8_find 17 = .ok (.invokevirtual 81, 3) := by decide +kernel
theorem dX8_find_20 : decode cX8_find 20 = .ok (.iload_n 2, 1) := by decide +kernel
theorem dX8_find_21 : decode cX8_find 21 = .ok (.if_icmp .ne 5, 3) := by decide +kernel
theorem dX8_find_24 : decode cX8_find 24 = .ok (.iload_n 3, 1) := by decide +kernel
theorem dX8_find_25 : decode cX8_find 25 = .ok (.ireturn, 1) := by decide +kernel
theorem dX8_find_26 : decode cX8_find 26 = .ok (.iinc 3 1, 3) := by decide +kernel
theorem dX8_find_29 : decode cX8_find 29 = .ok (.goto (-27), 3) := by decide +kernel
theorem dX8_find_32 : decode cX8_find 32 = .ok (.iconst (-1), 1) := by decide +kernel
theorem dX8_find_33 : decode cX8_find 33 = .ok (.ireturn, 1) := by decide +kernel
theorem dX8_makeWithElement_0 : decode cX8_makeWithElement 0 = .ok (.aload_n 0, 1) := by decide +kernel
theorem dX8_makeWithElement_1 : decode cX8_makeWithElement 1 = .ok (.getfield 12, 3) := by decide +kernel
theorem dX8_makeWithElement_4 : decode cX8_makeWithElement 4 = .ok (.getfield 32, 3) := by decide +kernel
theorem dX8_makeWithElement_7 : decode cX8_makeWithElement 7 = .ok (.istore 4, 2) := by decide +kernel
theorem dX8_makeWithElement_9 : decode cX8_makeWithElement 9 = .ok (.aload_n 0, 1) := by decide +kernel
theorem dX8_makeWithElement_10 : decode cX8_makeWithElement 10 = .ok (.getfield 21, 3) := by decide +kernel
theorem dX8_makeWithElement_13 : decode cX8_makeWithElement 13 = .ok (.iload_n 1, 1) := by decide +kernel
theorem dX8_makeWithElement_14 : decode cX8_makeWithElement 14 = .ok (.invokevirtual 69, 3) := by decide +kernel
theorem dX8_makeWithElement_17 : decode cX8_makeWithElement 17 = .ok (.istore 5, 2) := by decide +kernel
theorem dX8_makeWithElement_19 : decode cX8_makeWithElement 19 = .ok (.aload_n 0, 1) := by decide +kernel
theorem dX8_makeWithElement_20 : decode cX8_makeWithElement 20 = .ok (.iload_n 1, 1) := by decide +kernel
theorem dX8_makeWithElement_21 : decode cX8_makeWithElement 21 = .ok (.iload_n 2, 1) := by decide +kernel
theorem dX8_makeWithElement_22 : decode cX8_makeWithElement 22 = .ok (.invokevirtual 81, 3) := by decide +kernel
theorem dX8_makeWithElement_25 : decode cX8_makeWithElement 25 = .ok (.iload_n 3, 1) := by decide +kernel
theorem dX8_makeWithElement_26 : decode cX8_makeWithElement 26 = .ok (.if_icmp .eq 18, 3) := by decide +kernel
theorem dX8_makeWithElement_29 : decode cX8_makeWithElement 29 = .ok (.aload_n 0, 1) := by decide +kernel
theorem dX8_makeWithElement_30 : decode cX8_makeWithElement 30 = .ok (.iload 5, 2) := by decide +kernel
theorem dX8_makeWithElement_32 : decode cX8_makeWithElement 32 = .ok (.aload_n 0, 1) := by decide +kernel
theorem dX8_makeWithElement_33 : decode cX8_makeWithElement 33 = .ok (.iload_n 1, 1) := by decide +kernel
theorem dX8_makeWithElement_34 : decode cX8_makeWithElement 34 = .ok (.invokevirtual 72, 3) := by decide +kernel
theorem dX8_makeWithElement_37 : decode cX8_makeWithElement 37 = .ok (.iload_n 2, 1) := by decide +kernel
theorem dX8_makeWithElement_38 : decode cX8_makeWithElement 38 = .ok (.iload_n 3, 1) := by decide +kernel
theorem dX8_makeWithElement_39 : decode cX8_makeWithElement 39 = .ok (.invokevirtual 84, 3) := by decide +kernel
theorem dX8_makeWithElement_42 : decode cX8_makeWithElement 42 = .ok (.istore 5, 2) := by decide +kernel
theorem dX8_makeWithElement_44 : decode cX8_makeWithElement 44 = .ok (.aload_n 0, 1) := by decide +kernel
theorem dX8_makeWithElement_45 : decode cX8_makeWithElement 45 = .ok (.getfield 21, 3) := by decide +kernel
theorem dX8_makeWithElement_48 : decode cX8_makeWithElement 48 = .ok (.iload_n 1, 1) := by decide +kernel
theorem dX8_makeWithElement_49 : decode cX8_makeWithElement 49 = .ok (.iload 5, 2) := by decide +kernel
theorem dX8_makeWithElement_51 : decode cX8_makeWithElement 51 = .ok (.aload_n 0, 1) := by decide +kernel
theorem dX8_makeWithElement_52 : decode cX8_makeWithElement 52 = .ok (.getfield 21, 3) := by decide +kernel
theorem dX8_makeWithElement_55 : decode cX8_makeWithElement 55 = .ok (.iload_n 1, 1) := by decide +kernel
theorem dX8_makeWithElement_56 : decode cX8_makeWithElement 56 = .ok (.invokevirtual 66, 3) := by decide +kernel
theorem dX8_makeWithElement_59 : decode cX8_makeWithElement 59 = .ok (.aload_n 0, 1) := by decide +kernel
theorem dX8_makeWithElement_60 : decode cX8_makeWithElement 60 = .ok (.getfield 12, 3) := by decide +kernel
theorem dX8_makeWithElement_63 : decode cX8_makeWithElement 63 = .ok (.getfield 32, 3) := by decide +kernel
theorem dX8_makeWithElement_66 : decode cX8_makeWithElement 66 = .ok (.iload 4, 2) := by decide +kernel
theorem dX8_makeWithElement_68 : decode cX8_makeWithElement 68 = .ok (.isub, 1) := by decide +kernel
theorem dX8_makeWithElement_69 : decode cX8_makeWithElement 69 = .ok (.iload_n 2, 1) := by decide +kernel
theorem dX8_makeWithElement_70 : decode cX8_makeWithElement 70 = .ok (.iload_n 3, 1) := by decide +kernel
theorem dX8_makeWithElement_71 : decode cX8_makeWithElement 71 = .ok (.invokevirtual 88, 3) := by decide +kernel
theorem dX8_makeWithElement_74 : decode cX8_makeWithElement 74 = .ok (.ireturn, 1) := by decide +kernel
theorem dX8_makeLonger_0 : decode cX8_makeLonger 0 = .ok (.aload_n 0, 1) := by decide +kernel
theorem dX8_makeLonger_1 : decode cX8_makeLonger 1 = .ok (.getfield 12, 3) := by decide +kernel
theorem dX8_makeLonger_4 : decode cX8_makeLonger 4 = .ok (.getfield 32, 3) := by decide +kernel
theorem dX8_makeLonger_7 : decode cX8_makeLonger 7 = .ok (.istore_n 3, 1) := by decide +kernel
theorem dX8_makeLonger_8 : decode cX8_makeLonger 8 = .ok (.aload_n 0, 1) := by decide +kernel
theorem dX8_makeLonger_9 : decode cX8_makeLonger 9 = .ok (.getfield 21, 3) := by decide +kernel
theorem dX8_makeLonger_12 : decode cX8_makeLonger 12 = .ok (.iload_n 1, 1) := by decide +kernel
theorem dX8_makeLonger_13 : decode cX8_makeLonger 13 = .ok (.invokevirtual 66, 3) := by decide +kernel
theorem dX8_makeLonger_16 : decode cX8_makeLonger 16 = .ok (.istore 4, 2) := by decide +kernel
theorem dX8_makeLonger_18 : decode cX8_makeLonger 18 = .ok (.aload_n 0, 1) := by decide +kernel
theorem dX8_makeLonger_19 : decode cX8_makeLonger 19 = .ok (.getfield 21, 3) := by decide +kernel
theorem dX8_makeLonger_22 : decode cX8_makeLonger 22 = .ok (.iload_n 1, 1) := by decide +kernel
theorem dX8_makeLonger_23 : decode cX8_makeLonger 23 = .ok (.invokevirtual 69, 3) := by decide +kernel
theorem dX8_makeLonger_26 : decode cX8_makeLonger 26 = .ok (.istore 5, 2) := by decide +kernel
theorem dX8_makeLonger_28 : decode cX8_makeLonger 28 = .ok (.iload 4, 2) := by decide +kernel
theorem dX8_makeLonger_30 : decode cX8_makeLonger 30 = .ok (.iconst 1, 1) := by decide +kernel
theorem dX8_makeLonger_31 : decode cX8_makeLonger 31 = .ok (.iadd, 1) := by decide +kernel
theorem dX8_makeLonger_32 : decode cX8_makeLonger 32 = .ok (.invokestatic 40, 3) := by decide +kernel
theorem dX8_makeLonger_35 : decode cX8_makeLonger 35 = .ok (.istore 6, 2) := by decide +kernel
theorem dX8_makeLonger_37 : decode cX8_makeLonger 37 = .ok (.iload 4, 2) := by decide +kernel
theorem dX8_makeLonger_39 : decode cX8_makeLonger 39 = .ok (.ifCond .le 42, 3) := by decide +kernel
theorem dX8_makeLonger_42 : decode cX8_makeLonger 42 = .ok (.iload 6, 2) := by decide +kernel
theorem dX8_makeLonger_44 : decode cX8_makeLonger 44 = .ok (.iload 4, 2) := by decide +kernel
theorem dX8_makeLonger_46 : decode cX8_makeLonger 46 = .ok (.invokestatic 40, 3) := by decide +kernel
theorem dX8_makeLonger_49 : decode cX8_makeLonger 49 = .ok (.if_icmp .le 32, 3) := by decide +kernel
theorem dX8_makeLonger_52 : decode cX8_makeLonger 52 = .ok (.aload_n 0, 1) := by decide +kernel
theorem dX8_makeLonger_53 : decode cX8_makeLonger 53 = .ok (.iconst (-1), 1) := by decide +kernel
theorem dX8_makeLonger_54 : decode cX8_makeLonger 54 = .ok (.iload 6, 2) := by decide +kernel
theorem dX8_makeLonger_56 : decode cX8_makeLonger 56 = .ok (.iconst 1, 1) := by decide +kernel
theorem dX8_makeLonger_57 : decode cX8_makeLonger 57 = .ok (.isub, 1) := by decide +kernel
theorem dX8_makeLonger_58 : decode cX8_makeLonger 58 = .ok (.iload 4, 2) := by decide +kernel
theorem dX8_makeLonger_60 : decode cX8_makeLonger 60 = .ok (.iload_n 2, 1) := by decide +kernel
theorem dX8_makeLonger_61 : decode cX8_makeLonger 61 = .ok (.invokevirtual 84, 3) := by decide +kernel
theorem dX8_makeLonger_64 : decode cX8_makeLonger 64 = .ok (.istore 7, 2) := by decide +kernel
theorem dX8_makeLonger_66 : decode cX8_makeLonger 66 = .ok (.aload_n 0, 1) := by decide +kernel
theorem dX8_makeLonger_67 : decode cX8_makeLonger 67 = .ok (.iload 6, 2) := by decide +kernel
theorem dX8_makeLonger_69 : decode cX8_makeLonger 69 = .ok (.iload 5, 2) := by decide +kernel
theorem dX8_makeLonger_71 : decode cX8_makeLonger 71 = .ok (.iload 7, 2) := by decide +kernel
theorem dX8_makeLonger_73 : decode cX8_makeLonger 73 = .ok (.invokevirtual 91, 3) := by decide +kernel
theorem dX8_makeLonger_76 : decode cX8_makeLonger 76 = .ok (.istore 5, 2) := by decide +kernel
theorem dX8_makeLonger_78 : decode cX8_makeLonger 78 = .ok (.goto 16, 3) := by decide +kernel
theorem dX8_makeLonger_81 : decode cX8_makeLonger 81 = .ok (.aload_n 0, 1) := by decide +kernel
theorem dX8_makeLonger_82 : decode cX8_makeLonger 82 = .ok (.iload 5, 2) := by decide +kernel
theorem dX8_makeLonger_84 : decode cX8_makeLonger 84 = .ok (.iload 6, 2) := by decide +kernel
theorem dX8_makeLonger_86 : decode cX8_makeLonger 86 = .ok (.iload 4, 2) := by decide +kernel
theorem dX8_makeLonger_88 : decode cX8_makeLonger 88 = .ok (.iload_n 2, 1) := by decide +kernel
theorem dX8_makeLonger_89 : decode cX8_makeLonger 89 = .ok (.invokevirtual 84, 3) := by decide +kernel
theorem dX8_makeLonger_92 : decode cX8_makeLonger 92 = .ok (.istore 5, 2) := by decide +kernel
theorem dX8_makeLonger_94 : decode cX8_makeLonger 94 = .ok (.aload_n 0, 1) := by decide +kernel
theorem dX8_makeLonger_95 : decode cX8_makeLonger 95 = .ok (.getfield 21, 3) := by decide +kernel
theorem dX8_makeLonger_98 : decode cX8_makeLonger 98 = .ok (.iload_n 1, 1) := by decide +kernel
theorem dX8_makeLonger_99 : decode cX8_makeLonger 99 = .ok (.iload 5, 2) := by decide +kernel
theorem dX8_makeLonger_101 : decode cX8_makeLonger 101 = .ok (.iload 4, 2) := by decide +kernel
theorem dX8_makeLonger_103 : decode cX8_makeLonger 103 = .ok (.iconst 1, 1) := by decide +kernel
theorem dX8_makeLonger_104 : decode cX8_makeLonger 104 = .ok (.iadd, 1) := by decide +kernel
theorem dX8_makeLonger_105 : decode cX8_makeLonger 105 = .ok (.aload_n 0, 1) := by decide +kernel
theorem dX8_makeLonger_106 : decode cX8_makeLonger 106 = .ok (.getfield 12, 3) := by decide +kernel
theorem dX8_makeLonger_109 : decode cX8_makeLonger 109 = .ok (.getfield 32, 3) := by decide +kernel
theorem dX8_makeLonger_112 : decode cX8_makeLonger 112 = .ok (.iload_n 3, 1) := by decide +kernel
theorem dX8_makeLonger_113 : decode cX8_makeLonger 113 = .ok (.isub, 1) := by decide +kernel
theorem dX8_makeLonger_114 : decode cX8_makeLonger 114 = .ok (.iload 4, 2) := by decide +kernel
theorem dX8_makeLonger_116 : decode cX8_makeLonger 116 = .ok (.iload_n 2, 1) := by decide +kernel
theorem dX8_makeLonger_117 : decode cX8_makeLonger 117 = .ok (.invokevirtual 88, 3) := by decide +kernel
theorem dX8_makeLonger_120 : decode cX8_makeLonger 120 = .ok (.ireturn, 1) := by decide +kernel
theorem dX8_makeShorter_0 : decode cX8_makeShorter 0 = .ok (.aload_n 0, 1) := by decide +kernel
theorem dX8_makeShorter_1 : decode cX8_makeShorter 1 = .ok (.getfield 12, 3) := by decide +kernel
theorem dX8_makeShorter_4 : decode cX8_makeShorter 4 = .ok (.getfield 32, 3) := by decide +kernel
theorem dX8_makeShorter_7 : decode cX8_makeShorter 7 = .ok (.istore_n 3, 1) := by decide +kernel
theorem dX8_makeShorter_8 : decode cX8_makeShorter 8 = .ok (.iconst (-1), 1) := by decide +kernel
theorem dX8_makeShorter_9 : decode cX8_makeShorter 9 = .ok (.istore 4, 2) := by decide +kernel
theorem dX8_makeShorter_11 : decode cX8_makeShorter 11 = .ok (.iload_n 2, 1) := by decide +kernel
theorem dX8_makeShorter_12 : decode cX8_makeShorter 12 = .ok (.ifCond .le 23, 3) := by decide +kernel
theorem dX8_makeShorter_15 : decode cX8_makeShorter 15 = .ok (.aload_n 0, 1) := by decide +kernel
theorem dX8_makeShorter_16 : decode cX8_makeShorter 16 = .ok (.aload_n 0, 1) := by decide +kernel
theorem dX8_makeShorter_17 : decode cX8_makeShorter 17 = .ok (.iload_n 1, 1) := by decide +kernel
theorem dX8_makeShorter_18 : decode cX8_makeShorter 18 = .ok (.iload_n 2, 1) := by decide +kernel
theorem dX8_makeShorter_19 : decode cX8_makeShorter 19 = .ok (.invokestatic 40, 3) := by decide +kernel
theorem dX8_makeShorter_22 : decode cX8_makeShorter 22 = .ok (.invokevirtual 95, 3) := by decide +kernel
theorem dX8_makeShorter_25 : decode cX8_makeShorter 25 = .ok (.iload_n 2, 1) := by decide +kernel
theorem dX8_makeShorter_26 : decode cX8_makeShorter 26 = .ok (.invokestatic 40, 3) := by decide +kernel
theorem dX8_makeShorter_29 : decode cX8_makeShorter 29 = .ok (.iload_n 2, 1) := by decide +kernel
theorem dX8_makeShorter_30 : decode cX8_makeShorter 30 = .ok (.invokevirtual 98, 3) := by decide +kernel
theorem dX8_makeShorter_33 : decode cX8_makeShorter 33 = .ok (.istore 4, 2) := by decide +kernel
theorem dX8_makeShorter_35 : decode cX8_makeShorter 35 = .ok (.aload_n 0, 1) := by decide +kernel
theorem dX8_makeShorter_36 : decode cX8_makeShorter 36 = .ok (.getfield 21, 3) := by decide +kernel
theorem dX8_makeShorter_39 : decode cX8_makeShorter 39 = .ok (.iload_n 1, 1) := by decide +kernel
theorem dX8_makeShorter_40 : decode cX8_makeShorter 40 = .ok (.iload 4, 2) := by decide +kernel
theorem dX8_makeShorter_42 : decode cX8_makeShorter 42 = .ok (.iload_n 2, 1) := by decide +kernel
theorem dX8_makeShorter_43 : decode cX8_makeShorter 43 = .ok (.aload_n 0, 1) := by decide +kernel
theorem dX8_makeShorter_44 : decode cX8_makeShorter 44 = .ok (.getfield 12, 3) := by decide +kernel
theorem dX8_makeShorter_47 : decode cX8_makeShorter 47 = .ok (.getfield 32, 3) := by decide +kernel
theorem dX8_makeShorter_50 : decode cX8_makeShorter 50 = .ok (.iload_n 3, 1) := by decide +kernel
theorem dX8_makeShorter_51 : decode cX8_makeShorter 51 = .ok (.isub, 1) := by decide +kernel
theorem dX8_makeShorter_52 : decode cX8_makeShorter 52 = .ok (.iconst (-1), 1) := by decide +kernel
theorem dX8_makeShorter_53 : decode cX8_makeShorter 53 = .ok (.iconst 0, 1) := by decide +kernel
theorem dX8_makeShorter_54 : decode cX8_makeShorter 54 = .ok (.invokevirtual 88, 3) := by decide +kernel
theorem dX8_makeShorter_57 : decode cX8_makeShorter 57 = .ok (.ireturn, 1) := by decide +kernel
theorem dX8_addRoot_0 : decode cX8_addRoot 0 = .ok (.aload_n 0, 1) := by decide +kernel
theorem dX8_addRoot_1 : decode cX8_addRoot 1 = .ok (.getfield 12, 3) := by decide +kernel
theorem dX8_addRoot_4 : decode cX8_addRoot 4 = .ok (.iload_n 1, 1) := by decide +kernel
theorem dX8_addRoot_5 : decode cX8_addRoot 5 = .ok (.invokevirtual 56, 3) := by decide +kernel
theorem dX8_addRoot_8 : decode cX8_addRoot 8 = .ok (.istore 4, 2) := by decide +kernel
theorem dX8_addRoot_10 : decode cX8_addRoot 10 = .ok (.aload_n 0, 1) := by decide +kernel
theorem dX8_addRoot_11 : decode cX8_addRoot 11 = .ok (.getfield 12, 3) := by decide +kernel
theorem dX8_addRoot_14 : decode cX8_addRoot 14 = .ok (.iload 4, 2) := by decide +kernel
theorem dX8_addRoot_16 : decode cX8_addRoot 16 = .ok (.iconst 0, 1) := by decide +kernel
theorem dX8_addRoot_17 : decode cX8_addRoot 17 = .ok (.iload_n 2, 1) := by decide +kernel
theorem dX8_addRoot_18 : decode cX8_addRoot 18 = .ok (.invokevirtual 63, 3) := by decide +kernel
theorem dX8_addRoot_21 : decode cX8_addRoot 21 = .ok (.aload_n 0, 1) := by decide +kernel
theorem dX8_addRoot_22 : decode cX8_addRoot 22 = .ok (.getfield 12, 3) := by decide +kernel
theorem dX8_addRoot_25 : decode cX8_addRoot 25 = .ok (.iload 4, 2) := by decide +kernel
theorem dX8_addRoot_27 : decode cX8_addRoot 27 = .ok (.iconst 1, 1) := by decide +kernel
theorem dX8_addRoot_28 : decode cX8_addRoot 28 = .ok (.iload_n 3, 1) := by decide +kernel
theorem dX8_addRoot_29 : decode cX8_addRoot 29 = .ok (.invokevirtual 63, 3) := by decide +kernel
theorem dX8_addRoot_32 : decode cX8_addRoot 32 = .ok (.iload 4, 2) := by decide +kernel
theorem dX8_addRoot_34 : decode cX8_addRoot 34 = .ok (.ireturn, 1) := by decide +kernel
theorem dX8_copyWithElement_0 : decode cX8_copyWithElement 0 = .ok (.iload_n 2, 1) := by decide +kernel
theorem dX8_copyWithElement_1 : decode cX8_copyWithElement 1 = .ok (.iload_n 3, 1) := by decide +kernel
theorem dX8_copyWithElement_2 : decode cX8_copyWithElement 2 = .ok (.invokestatic 52, 3) := by decide +kernel
theorem dX8_copyWithElement_5 : decode cX8_copyWithElement 5 = .ok (.istore 5, 2) := by decide +kernel
theorem dX8_copyWithElement_7 : decode cX8_copyWithElement 7 = .ok (.iload 4, 2) := by decide +kernel
theorem dX8_copyWithElement_9 : decode cX8_copyWithElement 9 = .ok (.istore 6, 2) := by decide +kernel
theorem dX8_copyWithElement_11 : decode cX8_copyWithElement 11 = .ok (.iload_n 2, 1) := by decide +kernel
theorem dX8_copyWithElement_12 : decode cX8_copyWithElement 12 = .ok (.iconst 1, 1) := by decide +kernel
theorem dX8_copyWithElement_13 : decode cX8_copyWithElement 13 = .ok (.if_icmp .le 25, 3) := by decide +kernel
theorem dX8_copyWithElement_16 : decode cX8_copyWithElement 16 = .ok (.aload_n 0, 1) := by decide +kernel
theorem dX8_copyWithElement_17 : decode cX8_copyWithElement 17 = .ok (.aload_n 0, 1) := by decide +kernel
theorem dX8_copyWithElement_18 : decode cX8_copyWithElement 18 = .ok (.getfield 12, 3) := by decide +kernel
theorem dX8_copyWithElement_21 : decode cX8_copyWithElement 21 = .ok (.iload_n 1, 1) := by decide +kernel
theorem dX8_copyWithElement_22 : decode cX8_copyWithElement 22 = .ok (.iload 5, 2) := by decide +kernel
theorem dX8_copyWithElement_24 : decode cX8_copyWithElement 24 = .ok (.invokevirtual 101, 3) := by decide +kernel
theorem dX8_copyWithElement_27 : decode cX8_copyWithElement 27 = .ok (.iload_n 2, 1) := by decide +kernel
theorem dX8_copyWithElement_28 : decode cX8_copyWithElement 28 = .ok (.iconst 1, 1) := by decide +kernel
theorem dX8_copyWithElement_29 : decode cX8_copyWithElement 29 = .ok (.isub, 1) := by decide +kernel
theorem dX8_copyWithElement_30 : decode cX8_copyWithElement 30 = .ok (.iload_n 3, 1) := by decide +kernel
theorem dX8_copyWithElement_31 : decode cX8_copyWithElement 31 = .ok (.iload 4, 2) := by decide +kernel
theorem dX8_copyWithElement_33 : decode cX8_copyWithElement 33 = .ok (.invokevirtual 84, 3) := by decide +kernel
theorem dX8_copyWithElement_36 : decode cX8_copyWithElement 36 = .ok (.istore 6, 2) := by decide +kernel
theorem dX8_copyWithElement_38 : decode cX8_copyWithElement 38 = .ok (.aload_n 0, 1) := by decide +kernel
theorem dX8_copyWithElement_39 : decode cX8_copyWithElement 39 = .ok (.getfield 12, 3) := by decide +kernel
theorem dX8_copyWithElement_42 : decode cX8_copyWithElement 42 = .ok (.iload_n 1, 1) := by decide +kernel
theorem dX8_copyWithElement_43 : decode cX8_copyWithElement 43 = .ok (.iload_n 2, 1) := by decide +kernel
theorem dX8_copyWithElement_44 : decode cX8_copyWithElement 44 = .ok (.aload_n 0, 1) := by decide +kernel
theorem dX8_copyWithElement_45 : decode cX8_copyWithElement 45 = .ok (.getfield 12, 3) := by decide +kernel
theorem dX8_copyWithElement_48 : decode cX8_copyWithElement 48 = .ok (.iload_n 1, 1) := by decide +kernel
theorem dX8_copyWithElement_49 : decode cX8_copyWithElement 49 = .ok (.invokevirtual 104, 3) := by decide +kernel
theorem dX8_copyWithElement_52 : decode cX8_copyWithElement 52 = .ok (.iload 5, 2) := by decide +kernel
theorem dX8_copyWithElement_54 : decode cX8_copyWithElement 54 = .ok (.iload 6, 2) := by decide +kernel
theorem dX8_copyWithElement_56 : decode cX8_copyWithElement 56 = .ok (.invokevirtual 107, 3) := by decide +kernel
theorem dX8_copyWithElement_59 : decode cX8_copyWithElement 59 = .ok (.ireturn, 1) := by decide +kernel
theorem dX8_copyWithFirst_0 : decode cX8_copyWithFirst 0 = .ok (.aload_n 0, 1) := by decide +kernel
theorem dX8_copyWithFirst_1 : decode cX8_copyWithFirst 1 = .ok (.iload_n 1, 1) := by decide +kernel
theorem dX8_copyWithFirst_2 : decode cX8_copyWithFirst 2 = .ok (.iload_n 2, 1) := by decide +kernel
theorem dX8_copyWithFirst_3 : decode cX8_copyWithFirst 3 = .ok (.invokevirtual 111, 3) := by decide +kernel
theorem dX8_copyWithFirst_6 : decode cX8_copyWithFirst 6 = .ok (.iload_n 3, 1) := by decide +kernel
theorem dX8_copyWithFirst_7 : decode cX8_copyWithFirst 7 = .ok (.if_icmp .ne 5, 3) := by decide +kernel
theorem dX8_copyWithFirst_10 : decode cX8_copyWithFirst 10 = .ok (.iload_n 1, 1) := by decide +kernel
theorem dX8_copyWithFirst_11 : decode cX8_copyWithFirst 11 = .ok (.ireturn, 1) := by decide +kernel
theorem dX8_copyWithFirst_12 : decode cX8_copyWithFirst 12 = .ok (.iload_n 2, 1) := by decide +kernel
theorem dX8_copyWithFirst_13 : decode cX8_copyWithFirst 13 = .ok (.iload_n 3, 1) := by decide +kernel
theorem dX8_copyWithFirst_14 : decode cX8_copyWithFirst 14 = .ok (.iconst 1, 1) := by decide +kernel
theorem dX8_copyWithFirst_15 : decode cX8_copyWithFirst 15 = .ok (.isub, 1) := by decide +kernel
theorem dX8_copyWithFirst_16 : decode cX8_copyWithFirst 16 = .ok (.invokestatic 52, 3) := by decide +kernel
theorem dX8_copyWithFirst_19 : decode cX8_copyWithFirst 19 = .ok (.istore 4, 2) := by decide +kernel
theorem dX8_copyWithFirst_21 : decode cX8_copyWithFirst 21 = .ok (.aload_n 0, 1) := by decide +kernel
theorem dX8_copyWithFirst_22 : decode cX8_copyWithFirst 22 = .ok (.getfield 12, 3) := by decide +kernel
theorem dX8_copyWithFirst_25 : decode cX8_copyWithFirst 25 = .ok (.iload_n 1, 1) := by decide +kernel
theorem dX8_copyWithFirst_26 : decode cX8_copyWithFirst 26 = .ok (.iload 4, 2) := by decide +kernel
theorem dX8_copyWithFirst_28 : decode cX8_copyWithFirst 28 = .ok (.invokevirtual 75, 3) := by decide +kernel
theorem dX8_copyWithFirst_31 : decode cX8_copyWithFirst 31 = .ok (.istore 5, 2) := by decide +kernel
theorem dX8_copyWithFirst_33 : decode cX8_copyWithFirst 33 = .ok (.iload_n 2, 1) := by decide +kernel
theorem dX8_copyWithFirst_34 : decode cX8_copyWithFirst 34 = .ok (.iconst 1, 1) := by decide +kernel
theorem dX8_copyWithFirst_35 : decode cX8_copyWithFirst 35 = .ok (.if_icmp .le 25, 3) := by decide +kernel
theorem dX8_copyWithFirst_38 : decode cX8_copyWithFirst 38 = .ok (.aload_n 0, 1) := by decide +kernel
theorem dX8_copyWithFirst_39 : decode cX8_copyWithFirst 39 = .ok (.iload 5, 2) := by decide +kernel
theorem dX8_copyWithFirst_41 : decode cX8_copyWithFirst 41 = .ok (.iload_n 2, 1) := by decide +kernel
theorem dX8_copyWithFirst_42 : decode cX8_copyWithFirst 42 = .ok (.iconst 1, 1) := by decide +kernel
theorem dX8_copyWithFirst_43 : decode cX8_copyWithFirst 43 = .ok (.isub, 1) := by decide +kernel
theorem dX8_copyWithFirst_44 : decode cX8_copyWithFirst 44 = .ok (.iload_n 3, 1) := by decide +kernel
theorem dX8_copyWithFirst_45 : decode cX8_copyWithFirst 45 = .ok (.iload 4, 2) := by decide +kernel
theorem dX8_copyWithFirst_47 : decode cX8_copyWithFirst 47 = .ok (.iload_n 2, 1) := by decide +kernel
theorem dX8_copyWithFirst_48 : decode cX8_copyWithFirst 48 = .ok (.iconst 1, 1) := by decide +kernel
theorem dX8_copyWithFirst_49 : decode cX8_copyWithFirst 49 = .ok (.isub, 1) := by decide +kernel
theorem dX8_copyWithFirst_50 : decode cX8_copyWithFirst 50 = .ok (.invokestatic 114, 3) := by decide +kernel
theorem dX8_copyWithFirst_53 : decode cX8_copyWithFirst 53 = .ok (.imul, 1) := by decide +kernel
theorem dX8_copyWithFirst_54 : decode cX8_copyWithFirst 54 = .ok (.isub, 1) := by decide +kernel
theorem dX8_copyWithFirst_55 : decode cX8_copyWithFirst 55 = .ok (.invokevirtual 98, 3) := by decide +kernel
theorem dX8_copyWithFirst_58 : decode cX8_copyWithFirst 58 = .ok (.istore 5, 2) := by decide +kernel
theorem dX8_copyWithFirst_60 : decode cX8_copyWithFirst 60 = .ok (.aload_n 0, 1) := by decide +kernel
theorem dX8_copyWithFirst_61 : decode cX8_copyWithFirst 61 = .ok (.getfield 12, 3) := by decide +kernel
theorem dX8_copyWithFirst_64 : decode cX8_copyWithFirst 64 = .ok (.iload_n 1, 1) := by decide +kernel
theorem dX8_copyWithFirst_65 : decode cX8_copyWithFirst 65 = .ok (.iload_n 2, 1) := by decide +kernel
theorem dX8_copyWithFirst_66 : decode cX8_copyWithFirst 66 = .ok (.iload 4, 2) := by decide +kernel
theorem dX8_copyWithFirst_68 : decode cX8_copyWithFirst 68 = .ok (.iload 4, 2) := by decide +kernel
theorem dX8_copyWithFirst_70 : decode cX8_copyWithFirst 70 = .ok (.iload 5, 2) := by decide +kernel
theorem dX8_copyWithFirst_72 : decode cX8_copyWithFirst 72 = .ok (.invokevirtual 107, 3) := by decide +kernel
theorem dX8_copyWithFirst_75 : decode cX8_copyWithFirst 75 = .ok (.ireturn, 1) := by decide +kernel
theorem dX8_firstNodeAt_0 : decode cX8_firstNodeAt 0 = .ok (.aload_n 0, 1) := by decide +kernel
theorem dX8_firstNodeAt_1 : decode cX8_firstNodeAt 1 = .ok (.getfield 21, 3) := by decide +kernel
theorem dX8_firstNodeAt_4 : decode cX8_firstNodeAt 4 = .ok (.iload_n 1, 1) := by decide +kernel
theorem dX8_firstNodeAt_5 : decode cX8_firstNodeAt 5 = .ok (.invokevirtual 69, 3) := by decide +kernel
theorem dX8_firstNodeAt_8 : decode cX8_firstNodeAt 8 = .ok (.istore_n 3, 1) := by decide +kernel
theorem dX8_firstNodeAt_9 : decode cX8_firstNodeAt 9 = .ok (.aload_n 0, 1) := by decide +kernel
theorem dX8_firstNodeAt_10 : decode cX8_firstNodeAt 10 = .ok (.iload_n 1, 1) := by decide +kernel
theorem dX8_firstNodeAt_11 : decode cX8_firstNodeAt 11 = .ok (.invokevirtual 72, 3) := by decide +kernel
theorem dX8_firstNodeAt_14 : decode cX8_firstNodeAt 14 = .ok (.istore 4, 2) := by decide +kernel
theorem dX8_firstNodeAt_16 : decode cX8_firstNodeAt 16 = .ok (.iload 4, 2) := by decide +kernel
theorem dX8_firstNodeAt_18 : decode cX8_firstNodeAt 18 = .ok (.iload_n 2, 1) := by decide +kernel
theorem dX8_firstNodeAt_19 : decode cX8_firstNodeAt 19 = .ok (.if_icmp .le 19, 3) := by decide +kernel
theorem dX8_firstNodeAt_22 : decode cX8_firstNodeAt 22 = .ok (.aload_n 0, 1) := by decide +kernel
theorem dX8_firstNodeAt_23 : decode cX8_firstNodeAt 23 = .ok (.getfield 12, 3) := by decide +kernel
theorem dX8_firstNodeAt_26 : decode cX8_firstNodeAt 26 = .ok (.iload_n 3, 1) := by decide +kernel
theorem dX8_firstNodeAt_27 : decode cX8_firstNodeAt 27 = .ok (.iconst 0, 1) := by decide +kernel
theorem dX8_firstNodeAt_28 : decode cX8_firstNodeAt 28 = .ok (.invokevirtual 75, 3) := by decide +kernel
theorem dX8_firstNodeAt_31 : decode cX8_firstNodeAt 31 = .ok (.istore_n 3, 1) := by decide +kernel
theorem dX8_firstNodeAt_32 : decode cX8_firstNodeAt 32 = .ok (.iinc 4 (-1), 3) := by decide +kernel
theorem dX8_firstNodeAt_35 : decode cX8_firstNodeAt 35 = .ok (.goto (-19), 3) := by decide +kernel
theorem dX8_firstNodeAt_38 : decode cX8_firstNodeAt 38 = .ok (.iload_n 3, 1) := by decide +kernel
theorem dX8_firstNodeAt_39 : decode cX8_firstNodeAt 39 = .ok (.ireturn, 1) := by decide +kernel
theorem dX8_countElements_0 : decode cX8_countElements 0 = .ok (.iload_n 1, 1) := by decide +kernel
theorem dX8_countElements_1 : decode cX8_countElements 1 = .ok (.istore_n 3, 1) := by decide +kernel
theorem dX8_countElements_2 : decode cX8_countElements 2 = .ok (.iconst 0, 1) := by decide +kernel
theorem dX8_countElements_3 : decode cX8_countElements 3 = .ok (.istore 4, 2) := by decide +kernel
theorem dX8_countElements_5 : decode cX8_countElements 5 = .ok (.iload_n 2, 1) := by decide +kernel
theorem dX8_countElements_6 : decode cX8_countElements 6 = .ok (.istore 5, 2) := by decide +kernel
theorem dX8_countElements_8 : decode cX8_countElements 8 = .ok (.iload 5, 2) := by decide +kernel
theorem dX8_countElements_10 : decode cX8_countElements 10 = .ok (.iconst 1, 1) := by decide +kernel
theorem dX8_countElements_11 : decode cX8_countElements 11 = .ok (.if_icmp .le 47, 3) := by decide +kernel
theorem dX8_countElements_14 : decode cX8_countElements 14 = .ok (.aload_n 0, 1) := by decide +kernel
theorem dX8_countElements_15 : decode cX8_countElements 15 = .ok (.getfield 12, 3) := by decide +kernel
theorem dX8_countElements_18 : decode cX8_countElements 18 = .ok (.iload_n 3, 1) := by decide +kernel
theorem dX8_countElements_19 : decode cX8_countElements 19 = .ok (.invokevirtual 104, 3) := by decide +kernel
theorem dX8_countElements_22 : decode cX8_countElements 22 = .ok (.iconst 1, 1) := by decide +kernel
theorem dX8_countElements_23 : decode cX8_countElements 23 = .ok (.isub, 1) := by decide +kernel
theorem dX8_countElements_24 : decode cX8_countElements 24 = .ok (.istore 6, 2) := by decide +kernel
theorem dX8_countElements_26 : decode cX8_countElements 26 = .ok (.iload 4, 2) := by decide +kernel
theorem dX8_countElements_28 : decode cX8_countElements 28 = .ok (.iload 6, 2) := by decide +kernel
theorem dX8_countElements_30 : decode cX8_countElements 30 = .ok (.iload 5, 2) := by decide +kernel
theorem dX8_countElements_32 : decode cX8_countElements 32 = .ok (.iconst 1, 1) := by decide +kernel
theorem dX8_countElements_33 : decode cX8_countElements 33 = .ok (.isub, 1) := by decide +kernel
theorem dX8_countElements_34 : decode cX8_countElements 34 = .ok (.invokestatic 114, 3) := by decide +kernel
theorem dX8_countElements_37 : decode cX8_countElements 37 = .ok (.imul, 1) := by decide +kernel
theorem dX8_countElements_38 : decode cX8_countElements 38 = .ok (.iadd, 1) := by decide +kernel
theorem dX8_countElements_39 : decode cX8_countElements 39 = .ok (.istore 4, 2) := by decide +kernel
theorem dX8_countElements_41 : decode cX8_countElements 41 = .ok (.aload_n 0, 1) := by decide +kernel
theorem dX8_countElements_42 : decode cX8_countElements 42 = .ok (.getfield 12, 3) := by decide +kernel
theorem dX8_countElements_45 : decode cX8_countElements 45 = .ok (.iload_n 3, 1) := by decide +kernel
theorem dX8_countElements_46 : decode cX8_countElements 46 = .ok (.iload 6, 2) := by decide +kernel
theorem dX8_countElements_48 : decode cX8_countElements 48 = .ok (.invokevirtual 75, 3) := by decide +kernel
theorem dX8_countElements_51 : decode cX8_countElements 51 = .ok (.istore_n 3, 1) := by decide +kernel
theorem dX8_countElements_52 : decode cX8_countElements 52 = .ok (.iinc 5 (-1), 3) := by decide +kernel
theorem dX8_countElements_55 : decode cX8_countElements 55 = .ok (.goto (-47), 3) := by decide +kernel
theorem dX8_countElements_58 : decode cX8_countElements 58 = .ok (.iload 4, 2) := by decide +kernel
theorem dX8_countElements_60 : decode cX8_countElements 60 = .ok (.aload_n 0, 1) := by decide +kernel
theorem dX8_countElements_61 : decode cX8_countElements 61 = .ok (.getfield 12, 3) := by decide +kernel
theorem dX8_countElements_64 : decode cX8_countElements 64 = .ok (.iload_n 3, 1) := by decide +kernel
theorem dX8_countElements_65 : decode cX8_countElements 65 = .ok (.invokevirtual 104, 3) := by decide +kernel
theorem dX8_countElements_68 : decode cX8_countElements 68 = .ok (.iadd, 1) := by decide +kernel
theorem dX8_countElements_69 : decode cX8_countElements 69 = .ok (.ireturn, 1) := by decide +kernel
theorem dX8_countTree_0 : decode cX8_countTree 0 = .ok (.aload_n 0, 1) := by decide +kernel
theorem dX8_countTree_1 : decode cX8_countTree 1 = .ok (.aload_n 0, 1) := by decide +kernel
theorem dX8_countTree_2 : decode cX8_countTree 2 = .ok (.getfield 21, 3) := by decide +kernel
theorem dX8_countTree_5 : decode cX8_countTree 5 = .ok (.iload_n 1, 1) := by decide +kernel
theorem dX8_countTree_6 : decode cX8_countTree 6 = .ok (.invokevirtual 69, 3) := by decide +kernel
theorem dX8_countTree_9 : decode cX8_countTree 9 = .ok (.aload_n 0, 1) := by decide +kernel
theorem dX8_countTree_10 : decode cX8_countTree 10 = .ok (.iload_n 1, 1) := by decide +kernel
theorem dX8_countTree_11 : decode cX8_countTree 11 = .ok (.invokevirtual 72, 3) := by decide +kernel
theorem dX8_countTree_14 : decode cX8_countTree 14 = .ok (.invokevirtual 117, 3) := by decide +kernel
theorem dX8_countTree_17 : decode cX8_countTree 17 = .ok (.ireturn, 1) := by decide +kernel
theorem dX8_countAllTrees_0 : decode cX8_countAllTrees 0 = .ok (.iconst 0, 1) := by decide +kernel
theorem dX8_countAllTrees_1 : decode cX8_countAllTrees 1 = .ok (.istore_n 1, 1) := by decide +kernel
theorem dX8_countAllTrees_2 : decode cX8_countAllTrees 2 = .ok (.iconst 0, 1) := by decide +kernel
theorem dX8_countAllTrees_3 : decode cX8_countAllTrees 3 = .ok (.istore_n 2, 1) := by decide +kernel
theorem dX8_countAllTrees_4 : decode cX8_countAllTrees 4 = .ok (.iload_n 2, 1) := by decide +kernel
theorem dX8_countAllTrees_5 : decode cX8_countAllTrees 5 = .ok (.aload_n 0, 1) := by decide +kernel
theorem dX8_countAllTrees_6 : decode cX8_countAllTrees 6 = .ok (.getfield 21, 3) := by decide +kernel
theorem dX8_countAllTrees_9 : decode cX8_countAllTrees 9 = .ok (.getfield 120, 3) := by decide +kernel
theorem dX8_countAllTrees_12 : decode cX8_countAllTrees 12 = .ok (.if_icmp .ge 28, 3) := by decide +kernel
theorem dX8_countAllTrees_15 : decode cX8_countAllTrees 15 = .ok (.aload_n 0, 1) := by decide +kernel
theorem dX8_countAllTrees_16 : decode cX8_countAllTrees 16 = .ok (.getfield 21, 3) := by decide +kernel
theorem dX8_countAllTrees_19 : decode cX8_countAllTrees 19 = .ok (.iload_n 2, 1) := by decide +kernel
theorem dX8_countAllTrees_20 : decode cX8_countAllTrees 20 = .ok (.invokevirtual 123, 3) := by decide +kernel
theorem dX8_countAllTrees_23 : decode cX8_countAllTrees 23 = .ok (.ifCond .eq 11, 3) := by decide +kernel
theorem dX8_countAllTrees_26 : decode cX8_countAllTrees 26 = .ok (.iload_n 1, 1) := by decide +kernel
theorem dX8_countAllTrees_27 : decode cX8_countAllTrees 27 = .ok (.aload_n 0, 1) := by decide +kernel
theorem dX8_countAllTrees_28 : decode cX8_countAllTrees 28 = .ok (.iload_n 2, 1) := by decide +kernel
theorem dX8_countAllTrees_29 : decode cX8_countAllTrees 29 = .ok (.invokevirtual 127, 3) := by decide +kernel
theorem dX8_countAllTrees_32 : decode cX8_countAllTrees 32 = .ok (.iadd, 1) := by decide +kernel
theorem dX8_countAllTrees_33 : decode cX8_countAllTrees 33 = .ok (.istore_n 1, 1) := by decide +kernel
theorem dX8_countAllTrees_34 : decode cX8_countAllTrees 34 = .ok (.iinc 2 1, 3) := by decide +kernel
theorem dX8_countAllTrees_37 : decode cX8_countAllTrees 37 = .ok (.goto (-33), 3) := by decide +kernel
theorem dX8_countAllTrees_40 : decode cX8_countAllTrees 40 = .ok (.iload_n 1, 1) := by decide +kernel
theorem dX8_countAllTrees_41 : decode cX8_countAllTrees 41 = .ok (.ireturn, 1) := by decide +kernel
theorem dX8_countNodesFrom_0 : decode cX8_countNodesFrom 0 = .ok (.iload_n 2, 1) := by decide +kernel
theorem dX8_countNodesFrom_1 : decode cX8_countNodesFrom 1 = .ok (.iconst 1, 1) := by decide +kernel
theorem dX8_countNodesFrom_2 : decode cX8_countNodesFrom 2 = .ok (.if_icmp .ge 5, 3) := by decide +kernel
theorem dX8_countNodesFrom_5 : decode cX8_countNodesFrom 5 = .ok (.iconst 0, 1) := by decide +kernel
theorem dX8_countNodesFrom_6 : decode cX8_countNodesFrom 6 = .ok (.ireturn, 1) := by decide +kernel
theorem dX8_countNodesFrom_7 : decode cX8_countNodesFrom 7 = .ok (.iconst 1, 1) := by decide +kernel
theorem dX8_countNodesFrom_8 : decode cX8_countNodesFrom 8 = .ok (.istore_n 3, 1) := by decide +kernel
theorem dX8_countNodesFrom_9 : decode cX8_countNodesFrom 9 = .ok (.iconst 0, 1) := by decide +kernel
theorem dX8_countNodesFrom_10 : decode cX8_countNodesFrom 10 = .ok (.istore 4, 2) := by decide +kernel
theorem dX8_countNodesFrom_12 : decode cX8_countNodesFrom 12 = .ok (.iload_n 2, 1) := by decide +kernel
theorem dX8_countNodesFrom_13 : decode cX8_countNodesFrom 13 = .ok (.iconst 1, 1) := by decide +kernel
theorem dX8_countNodesFrom_14 : decode cX8_countNodesFrom 14 = .ok (.if_icmp .le 42, 3) := by decide +kernel
theorem dX8_countNodesFrom_17 : decode cX8_countNodesFrom 17 = .ok (.iload 4, 2) := by decide +kernel
theorem dX8_countNodesFrom_19 : decode cX8_countNodesFrom 19 = .ok (.aload_n 0, 1) := by decide +kernel
theorem dX8_countNodesFrom_20 : decode cX8_countNodesFrom 20 = .ok (.getfield 12, 3) := by decide +kernel
theorem dX8_countNodesFrom_23 : decode cX8_countNodesFrom 23 = .ok (.iload_n 1, 1) := by decide +kernel
theorem dX8_countNodesFrom_24 : decode cX8_countNodesFrom 24 = .ok (.invokevirtual 104, 3) := by decide +kernel
theorem dX8_countNodesFrom_27 : decode cX8_countNodesFrom 27 = .ok (.if_icmp .ge 29, 3) := by decide +kernel
theorem dX8_countNodesFrom_30 : decode cX8_countNodesFrom 30 = .ok (.iload_n 3, 1) := by decide +kernel
theorem dX8_countNodesFrom_31 : decode cX8_countNodesFrom 31 = .ok (.aload_n 0, 1) := by decide +kernel
theorem dX8_countNodesFrom_32 : decode cX8_countNodesFrom 32 = .ok (.aload_n 0, 1) := by decide +kernel
theorem dX8_countNodesFrom_33 : decode cX8_countNodesFrom 33 = .ok (.getfield 12, 3) := by decide +kernel
theorem dX8_countNodesFrom_36 : decode cX8_countNodesFrom 36 = .ok (.iload_n 1, 1) := by decide +kernel
theorem dX8_countNodesFrom_37 : decode cX8_countNodesFrom 37 = .ok (.iload 4, 2) := by decide +kernel
theorem dX8_countNodesFrom_39 : decode cX8_countNodesFrom 39 = .ok (.invokevirtual 75, 3) := by decide +kernel
theorem dX8_countNodesFrom_42 : decode cX8_countNodesFrom 42 = .ok (.iload_n 2, 1) := by decide +kernel
theorem dX8_countNodesFrom_43 : decode cX8_countNodesFrom 43 = .ok (.iconst 1, 1) := by decide +kernel
theorem dX8_countNodesFrom_44 : decode cX8_countNodesFrom 44 = .ok (.isub, 1) := by decide +kernel
theorem dX8_countNodesFrom_45 : decode cX8_countNodesFrom 45 = .ok (.invokevirtual 117, 3) := by decide +kernel
theorem dX8_countNodesFrom_48 : decode cX8_countNodesFrom 48 = .ok (.iadd, 1) := by decide +kernel
theorem dX8_countNodesFrom_49 : decode cX8_countNodesFrom 49 = .ok (.istore_n 3, 1) := by decide +kernel
theorem dX8_countNodesFrom_50 : decode cX8_countNodesFrom 50 = .ok (.iinc 4 1, 3) := by decide +kernel
theorem dX8_countNodesFrom_53 : decode cX8_countNodesFrom 53 = .ok (.goto (-41), 3) := by decide +kernel
theorem dX8_countNodesFrom_56 : decode cX8_countNodesFrom 56 = .ok (.iload_n 3, 1) := by decide +kernel
theorem dX8_countNodesFrom_57 : decode cX8_countNodesFrom 57 = .ok (.ireturn, 1) := by decide +kernel
theorem dX8_countDifferences_0 : decode cX8_countDifferences 0 = .ok (.aload_n 0, 1) := by decide +kernel
theorem dX8_countDifferences_1 : decode cX8_countDifferences 1 = .ok (.getfield 21, 3) := by decide +kernel
theorem dX8_countDifferences_4 : decode cX8_countDifferences 4 = .ok (.iload_n 1, 1) := by decide +kernel
theorem dX8_countDifferences_5 : decode cX8_countDifferences 5 = .ok (.invokevirtual 66, 3) := by decide +kernel
theorem dX8_countDifferences_8 : decode cX8_countDifferences 8 = .ok (.istore_n 3, 1) := by decide +kernel
theorem dX8_countDifferences_9 : decode cX8_countDifferences 9 = .ok (.aload_n 0, 1) := by decide +kernel
theorem dX8_countDifferences_10 : decode cX8_countDifferences 10 = .ok (.getfield 21, 3) := by decide +kernel
theorem dX8_countDifferences_13 : decode cX8_countDifferences 13 = .ok (.iload_n 2, 1) := by decide +kernel
theorem dX8_countDifferences_14 : decode cX8_countDifferences 14 = .ok (.invokevirtual 66, 3) := by decide +kernel
theorem dX8_countDifferences_17 : decode cX8_countDifferences 17 = .ok (.istore 4, 2) := by decide +kernel
theorem dX8_countDifferences_19 : decode cX8_countDifferences 19 = .ok (.iload_n 3, 1) := by decide +kernel
theorem dX8_countDifferences_20 : decode cX8_countDifferences 20 = .ok (.iload 4, 2) := by decide +kernel
theorem dX8_countDifferences_22 : decode cX8_countDifferences 22 = .ok (.isub, 1) := by decide +kernel
theorem dX8_countDifferences_23 : decode cX8_countDifferences 23 = .ok (.invokestatic 130, 3) := by decide +kernel
theorem dX8_countDifferences_26 : decode cX8_countDifferences 26 = .ok (.istore 5, 2) := by decide +kernel
theorem dX8_countDifferences_28 : decode cX8_countDifferences 28 = .ok (.iconst 0, 1) := by decide +kernel
theorem dX8_countDifferences_29 : decode cX8_countDifferences 29 = .ok (.istore 6, 2) := by decide +kernel
theorem dX8_countDifferences_31 : decode cX8_countDifferences 31 = .ok (.iload 6, 2) := by decide +kernel
theorem dX8_countDifferences_33 : decode cX8_countDifferences 33 = .ok (.iload_n 3, 1) := by decide +kernel
theorem dX8_countDifferences_34 : decode cX8_countDifferences 34 = .ok (.iload 4, 2) := by decide +kernel
theorem dX8_countDifferences_36 : decode cX8_countDifferences 36 = .ok (.invokestatic 135, 3) := by decide +kernel
theorem dX8_countDifferences_39 : decode cX8_countDifferences 39 = .ok (.if_icmp .ge 29, 3) := by decide +kernel
theorem dX8_countDifferences_42 : decode cX8_countDifferences 42 = .ok (.aload_n 0, 1) := by decide +kernel
theorem dX8_countDifferences_43 : decode cX8_countDifferences 43 = .ok (.iload_n 1, 1) := by decide +kernel
theorem dX8_countDifferences_44 : decode cX8_countDifferences 44 = .ok (.iload 6, 2) := by decide +kernel
theorem dX8_countDifferences_46 : decode cX8_countDifferences 46 = .ok (.invokevirtual 81, 3) := by decide +kernel
theorem dX8_countDifferences_49 : decode cX8_countDifferences 49 = .ok (.aload_n 0, 1) := by decide +kernel
theorem dX8_countDifferences_50 : decode cX8_countDifferences 50 = .ok (.iload_n 2, 1) := by decide +kernel
theorem dX8_countDifferences_51 : decode cX8_countDifferences 51 = .ok (.iload 6, 2) := by decide +kernel
theorem dX8_countDifferences_53 : decode cX8_countDifferences 53 = .ok (.invokevirtual 81, 3) := by decide +kernel
theorem dX8_countDifferences_56 : decode cX8_countDifferences 56 = .ok (.if_icmp .eq 6, 3) := by decide +kernel
theorem dX8_countDifferences_59 : decode cX8_countDifferences 59 = .ok (.iinc 5 1, 3) := by decide +kernel
theorem dX8_countDifferences_62 : decode cX8_countDifferences 62 = .ok (.iinc 6 1, 3) := by decide +kernel
theorem dX8_countDifferences_65 : decode cX8_countDifferences 65 = .ok (.goto (-34), 3) := by decide +kernel
theorem dX8_countDifferences_68 : decode cX8_countDifferences 68 = .ok (.iload 5, 2) := by decide +kernel
theorem dX8_countDifferences_70 : decode cX8_countDifferences 70 = .ok (.ireturn, 1) := by decide +kernel
theorem dX8_findDifference_0 : decode cX8_findDifference 0 = .ok (.aload_n 0, 1) := by decide +kernel
theorem dX8_findDifference_1 : decode cX8_findDifference 1 = .ok (.getfield 21, 3) := by decide +kernel
theorem dX8_findDifference_4 : decode cX8_findDifference 4 = .ok (.iload_n 1, 1) := by decide +kernel
theorem dX8_findDifference_5 : decode cX8_findDifference 5 = .ok (.invokevirtual 66, 3) := by decide +kernel
theorem dX8_findDifference_8 : decode cX8_findDifference 8 = .ok (.istore_n 3, 1) := by decide +kernel
theorem dX8_findDifference_9 : decode cX8_findDifference 9 = .ok (.aload_n 0, 1) := by decide +kernel
theorem dX8_findDifference_10 : decode cX8_findDifference 10 = .ok (.getfield 21, 3) := by decide +kernel
theorem dX8_findDifference_13 : decode cX8_findDifference 13 = .ok (.iload_n 2, 1) := by decide +kernel
theorem dX8_findDifference_14 : decode cX8_findDifference 14 = .ok (.invokevirtual 66, 3) := by decide +kernel
theorem dX8_findDifference_17 : decode cX8_findDifference 17 = .ok (.istore 4, 2) := by decide +kernel
theorem dX8_findDifference_19 : decode cX8_findDifference 19 = .ok (.iload_n 3, 1) := by decide +kernel
theorem dX8_findDifference_20 : decode cX8_findDifference 20 = .ok (.iload 4, 2) := by decide +kernel
theorem dX8_findDifference_22 : decode cX8_findDifference 22 = .ok (.invokestatic 135, 3) := by decide +kernel
theorem dX8_findDifference_25 : decode cX8_findDifference 25 = .ok (.istore 5, 2) := by decide +kernel
theorem dX8_findDifference_27 : decode cX8_findDifference 27 = .ok (.iconst 0, 1) := by decide +kernel
theorem dX8_findDifference_28 : decode cX8_findDifference 28 = .ok (.istore 6, 2) := by decide +kernel
theorem dX8_findDifference_30 : decode cX8_findDifference 30 = .ok (.iload 6, 2) := by decide +kernel
theorem dX8_findDifference_32 : decode cX8_findDifference 32 = .ok (.iload 5, 2) := by decide +kernel
theorem dX8_findDifference_34 : decode cX8_findDifference 34 = .ok (.if_icmp .ge 29, 3) := by decide +kernel
theorem dX8_findDifference_37 : decode cX8_findDifference 37 = .ok (.aload_n 0, 1) := by decide +kernel
theorem dX8_findDifference_38 : decode cX8_findDifference 38 = .ok (.iload_n 1, 1) := by decide +kernel
theorem dX8_findDifference_39 : decode cX8_findDifference 39 = .ok (.iload 6, 2) := by decide +kernel
theorem dX8_findDifference_41 : decode cX8_findDifference 41 = .ok (.invokevirtual 81, 3) := by decide +kernel
theorem dX8_findDifference_44 : decode cX8_findDifference 44 = .ok (.aload_n 0, 1) := by decide +kernel
theorem dX8_findDifference_45 : decode cX8_findDifference 45 = .ok (.iload_n 2, 1) := by decide +kernel
theorem dX8_findDifference_46 : decode cX8_findDifference 46 = .ok (.iload 6, 2) := by decide +kernel
theorem dX8_findDifference_48 : decode cX8_findDifference 48 = .ok (.invokevirtual 81, 3) := by decide +kernel
theorem dX8_findDifference_51 : decode cX8_findDifference 51 = .ok (.if_icmp .eq 6, 3) := by decide +kernel
theorem dX8_findDifference_54 : decode cX8_findDifference 54 = .ok (.iload 6, 2) := by decide +kernel
theorem dX8_findDifference_56 : decode cX8_findDifference 56 = .ok (.ireturn, 1) := by decide +kernel
theorem dX8_findDifference_57 : decode cX8_findDifference 57 = .ok (.iinc 6 1, 3) := by decide +kernel
theorem dX8_findDifference_60 : decode cX8_findDifference 60 = .ok (.goto (-30), 3) := by decide +kernel
theorem dX8_findDifference_63 : decode cX8_findDifference 63 = .ok (.iload_n 3, 1) := by decide +kernel
theorem dX8_findDifference_64 : decode cX8_findDifference 64 = .ok (.iload 4, 2) := by decide +kernel
theorem dX8_findDifference_66 : decode cX8_findDifference 66 = .ok (.if_icmp .ne 7, 3) := by decide +kernel
theorem dX8_findDifference_69 : decode cX8_findDifference 69 = .ok (.iconst (-1), 1) := by decide +kernel
theorem dX8_findDifference_70 : decode cX8_findDifference 70 = .ok (.goto 5, 3) := by decide +kernel
theorem dX8_findDifference_73 : decode cX8_findDifference 73 = .ok (.iload 5, 2) := by decide +kernel
theorem dX8_findDifference_75 : decode cX8_findDifference 75 = .ok (.ireturn, 1) := by decide +kernel
theorem dX8_costOfComparing_0 : decode cX8_costOfComparing 0 = .ok (.aload_n 0, 1) := by decide +kernel
theorem dX8_costOfComparing_1 : decode cX8_costOfComparing 1 = .ok (.iload_n 1, 1) := by decide +kernel
theorem dX8_costOfComparing_2 : decode cX8_costOfComparing 2 = .ok (.invokevirtual 72, 3) := by decide +kernel
theorem dX8_costOfComparing_5 : decode cX8_costOfComparing 5 = .ok (.istore_n 3, 1) := by decide +kernel
theorem dX8_costOfComparing_6 : decode cX8_costOfComparing 6 = .ok (.iload_n 3, 1) := by decide +kernel
theorem dX8_costOfComparing_7 : decode cX8_costOfComparing 7 = .ok (.aload_n 0, 1) := by decide +kernel
theorem dX8_costOfComparing_8 : decode cX8_costOfComparing 8 = .ok (.iload_n 2, 1) := by decide +kernel
theorem dX8_costOfComparing_9 : decode cX8_costOfComparing 9 = .ok (.invokevirtual 72, 3) := by decide +kernel
theorem dX8_costOfComparing_12 : decode cX8_costOfComparing 12 = .ok (.if_icmp .eq 5, 3) := by decide +kernel
theorem dX8_costOfComparing_15 : decode cX8_costOfComparing 15 = .ok (.iconst (-1), 1) := by decide +kernel
theorem dX8_costOfComparing_16 : decode cX8_costOfComparing 16 = .ok (.ireturn, 1) := by decide +kernel
theorem dX8_costOfComparing_17 : decode cX8_costOfComparing 17 = .ok (.aload_n 0, 1) := by decide +kernel
theorem dX8_costOfComparing_18 : decode cX8_costOfComparing 18 = .ok (.aload_n 0, 1) := by decide +kernel
theorem dX8_costOfComparing_19 : decode cX8_costOfComparing 19 = .ok (.getfield 21, 3) := by decide +kernel
theorem dX8_costOfComparing_22 : decode cX8_costOfComparing 22 = .ok (.iload_n 1, 1) := by decide +kernel
theorem dX8_costOfComparing_23 : decode cX8_costOfComparing 23 = .ok (.invokevirtual 69, 3) := by decide +kernel
theorem dX8_costOfComparing_26 : decode cX8_costOfComparing 26 = .ok (.aload_n 0, 1) := by decide +kernel
theorem dX8_costOfComparing_27 : decode cX8_costOfComparing 27 = .ok (.getfield 21, 3) := by decide +kernel
theorem dX8_costOfComparing_30 : decode cX8_costOfComparing 30 = .ok (.iload_n 2, 1) := by decide +kernel
theorem dX8_costOfComparing_31 : decode cX8_costOfComparing 31 = .ok (.invokevirtual 69, 3) := by decide +kernel
theorem dX8_costOfComparing_34 : decode cX8_costOfComparing 34 = .ok (.iload_n 3, 1) := by decide +kernel
theorem dX8_costOfComparing_35 : decode cX8_costOfComparing 35 = .ok (.invokevirtual 138, 3) := by decide +kernel
theorem dX8_costOfComparing_38 : decode cX8_costOfComparing 38 = .ok (.ireturn, 1) := by decide +kernel
theorem dX8_countPairs_0 : decode cX8_countPairs 0 = .ok (.iload_n 1, 1) := by decide +kernel
theorem dX8_countPairs_1 : decode cX8_countPairs 1 = .ok (.iload_n 2, 1) := by decide +kernel
theorem dX8_countPairs_2 : decode cX8_countPairs 2 = .ok (.if_icmp .ne 5, 3) := by decide +kernel
theorem dX8_countPairs_5 : decode cX8_countPairs 5 = .ok (.iconst 0, 1) := by decide +kernel
theorem dX8_countPairs_6 : decode cX8_countPairs 6 = .ok (.ireturn, 1) := by decide +kernel
theorem dX8_countPairs_7 : decode cX8_countPairs 7 = .ok (.iconst 1, 1) := by decide +kernel
theorem dX8_countPairs_8 : decode cX8_countPairs 8 = .ok (.istore 4, 2) := by decide +kernel
theorem dX8_countPairs_10 : decode cX8_countPairs 10 = .ok (.aload_n 0, 1) := by decide +kernel
theorem dX8_countPairs_11 : decode cX8_countPairs 11 = .ok (.getfield 12, 3) := by decide +kernel
theorem dX8_countPairs_14 : decode cX8_countPairs 14 = .ok (.iload_n 1, 1) := by decide +kernel
theorem dX8_countPairs_15 : decode cX8_countPairs 15 = .ok (.invokevirtual 104, 3) := by decide +kernel
theorem dX8_countPairs_18 : decode cX8_countPairs 18 = .ok (.aload_n 0, 1) := by decide +kernel
theorem dX8_countPairs_19 : decode cX8_countPairs 19 = .ok (.getfield 12, 3) := by decide +kernel
theorem dX8_countPairs_22 : decode cX8_countPairs 22 = .ok (.iload_n 2, 1) := by decide +kernel
theorem dX8_countPairs_23 : decode cX8_countPairs 23 = .ok (.invokevirtual 104, 3) := by decide +kernel
theorem dX8_countPairs_26 : decode cX8_countPairs 26 = .ok (.invokestatic 135, 3) := by decide +kernel
theorem dX8_countPairs_29 : decode cX8_countPairs 29 = .ok (.istore 5, 2) := by decide +kernel
theorem dX8_countPairs_31 : decode cX8_countPairs 31 = .ok (.iconst 0, 1) := by decide +kernel
theorem dX8_countPairs_32 : decode cX8_countPairs 32 = .ok (.istore 6, 2) := by decide +kernel
theorem dX8_countPairs_34 : decode cX8_countPairs 34 = .ok (.iload_n 3, 1) := by decide +kernel
theorem dX8_countPairs_35 : decode cX8_countPairs 35 = .ok (.iconst 1, 1) := by decide +kernel
theorem dX8_countPairs_36 : decode cX8_countPairs 36 = .ok (.if_icmp .le 48, 3) := by decide +kernel
theorem dX8_countPairs_39 : decode cX8_countPairs 39 = .ok (.iload 6, 2) := by decide +kernel
theorem dX8_countPairs_41 : decode cX8_countPairs 41 = .ok (.iload 5, 2) := by decide +kernel
theorem dX8_countPairs_43 : decode cX8_countPairs 43 = .ok (.if_icmp .ge 41, 3) := by decide +kernel
theorem dX8_countPairs_46 : decode cX8_countPairs 46 = .ok (.iload 4, 2) := by decide +kernel
theorem dX8_countPairs_48 : decode cX8_countPairs 48 = .ok (.aload_n 0, 1) := by decide +kernel
theorem dX8_countPairs_49 : decode cX8_countPairs 49 = .ok (.aload_n 0, 1) := by decide +kernel
theorem dX8_countPairs_50 : decode cX8_countPairs 50 = .ok (.getfield 12, 3) := by decide +kernel
theorem dX8_countPairs_53 : decode cX8_countPairs 53 = .ok (.iload_n 1, 1) := by decide +kernel
theorem dX8_countPairs_54 : decode cX8_countPairs 54 = .ok (.iload 6, 2) := by decide +kernel
theorem dX8_countPairs_56 : decode cX8_countPairs 56 = .ok (.invokevirtual 75, 3) := by decide +kernel
theorem dX8_countPairs_59 : decode cX8_countPairs 59 = .ok (.aload_n 0, 1) := by decide +kernel
theorem dX8_countPairs_60 : decode cX8_countPairs 60 = .ok (.getfield 12, 3) := by decide +kernel
theorem dX8_countPairs_63 : decode cX8_countPairs 63 = .ok (.iload_n 2, 1) := by decide +kernel
theorem dX8_countPairs_64 : decode cX8_countPairs 64 = .ok (.iload 6, 2) := by decide +kernel
theorem dX8_countPairs_66 : decode cX8_countPairs 66 = .ok (.invokevirtual 75, 3) := by decide +kernel
theorem dX8_countPairs_69 : decode cX8_countPairs 69 = .ok (.iload_n 3, 1) := by decide +kernel
theorem dX8_countPairs_70 : decode cX8_countPairs 70 = .ok (.iconst 1, 1) := by decide +kernel
theorem dX8_countPairs_71 : decode cX8_countPairs 71 = .ok (.isub, 1) := by decide +kernel
theorem dX8_countPairs_72 : decode cX8_countPairs 72 = .ok (.invokevirtual 138, 3) := by decide +kernel
theorem dX8_countPairs_75 : decode cX8_countPairs 75 = .ok (.iadd, 1) := by decide +kernel
theorem dX8_countPairs_76 : decode cX8_countPairs 76 = .ok (.istore 4, 2) := by decide +kernel
theorem dX8_countPairs_78 : decode cX8_countPairs 78 = .ok (.iinc 6 1, 3) := by decide +kernel
theorem dX8_countPairs_81 : decode cX8_countPairs 81 = .ok (.goto (-47), 3) := by decide +kernel
theorem dX8_countPairs_84 : decode cX8_countPairs 84 = .ok (.iload 4, 2) := by decide +kernel
theorem dX8_countPairs_86 : decode cX8_countPairs 86 = .ok (.ireturn, 1) := by decide +kernel
theorem dX9_init_0 : decode cX9_init 0 = .ok (.aload_n 0, 1) := by decide +kernel
theorem dX9_init_1 : decode cX9_init 1 = .ok (.invokespecial 3, 3) := by decide +kernel
theorem dX9_init_4 : decode cX9_init 4 = .ok (.aload_n 0, 1) := by decide +kernel
theorem dX9_init_5 : decode cX9_init 5 = .ok (.iconst 0, 1) := by decide +kernel
theorem dX9_init_6 : decode cX9_init 6 = .ok (.putfield 9, 3) := by decide +kernel
theorem dX9_init_9 : decode cX9_init 9 = .ok (.aload_n 0, 1) := by decide +kernel
theorem dX9_init_10 : decode cX9_init 10 = .ok (.iconst (-1), 1) := by decide +kernel
theorem dX9_init_11 : decode cX9_init 11 = .ok (.putfield 15, 3) := by decide +kernel
theorem dX9_init_14 : decode cX9_init 14 = .ok (.aload_n 0, 1) := by decide +kernel
theorem dX9_init_15 : decode cX9_init 15 = .ok (.aload_n 1, 1) := by decide +kernel
theorem dX9_init_16 : decode cX9_init 16 = .ok (.putfield 18, 3) := by decide +kernel
theorem dX9_init_19 : decode cX9_init 19 = .ok (.return_, 1) := by decide +kernel
theorem dX9_begin_0 : decode cX9_begin 0 = .ok (.aload_n 0, 1) := by decide +kernel
theorem dX9_begin_1 : decode cX9_begin 1 = .ok (.iconst 0, 1) := by decide +kernel
theorem dX9_begin_2 : decode cX9_begin 2 = .ok (.putfield 9, 3) := by decide +kernel
theorem dX9_begin_5 : decode cX9_begin 5 = .ok (.aload_n 0, 1) := by decide +kernel
theorem dX9_begin_6 : decode cX9_begin 6 = .ok (.iconst (-1), 1) := by decide +kernel
theorem dX9_begin_7 : decode cX9_begin 7 = .ok (.putfield 15, 3) := by decide +kernel
theorem dX9_begin_10 : decode cX9_begin 10 = .ok (.aload_n 0, 1) := by decide +kernel
theorem dX9_begin_11 : decode cX9_begin 11 = .ok (.iconst 0, 1) := by decide +kernel
theorem dX9_begin_12 : decode cX9_begin 12 = .ok (.putfield 22, 3) := by decide +kernel
theorem dX9_begin_15 : decode cX9_begin 15 = .ok (.return_, 1) := by decide +kernel
theorem dX9_fail_0 : decode cX9_fail 0 = .ok (.aload_n 0, 1) := by decide +kernel
theorem dX9_fail_1 : decode cX9_fail 1 = .ok (.iload_n 1, 1) := by decide +kernel
theorem dX9_fail_2 : decode cX9_fail 2 = .ok (.putfield 9, 3) := by decide +kernel
theorem dX9_fail_5 : decode cX9_fail 5 = .ok (.aload_n 0, 1) := by decide +kernel
theorem dX9_fail_6 : decode cX9_fail 6 = .ok (.aload_n 0, 1) := by decide +kernel
theorem dX9_fail_7 : decode cX9_fail 7 = .ok (.getfield 25, 3) := by decide +kernel
theorem dX9_fail_10 : decode cX9_fail 10 = .ok (.putfield 15, 3) := by decide +kernel
theorem dX9_fail_13 : decode cX9_fail 13 = .ok (.iconst 0, 1) := by decide +kernel
theorem dX9_fail_14 : decode cX9_fail 14 = .ok (.ireturn, 1) := by decide +kernel
theorem dX9_advance_0 : decode cX9_advance 0 = .ok (.aload_n 0, 1) := by decide +kernel
theorem dX9_advance_1 : decode cX9_advance 1 = .ok (.getfield 22, 3) := by decide +kernel
theorem dX9_advance_4 : decode cX9_advance 4 = .ok (.aload_n 0, 1) := by decide +kernel
theorem dX9_advance_5 : decode cX9_advance 5 = .ok (.getfield 18, 3) := by decide +kernel
theorem dX9_advance_8 : decode cX9_advance 8 = .ok (.getfield 28, 3) := by decide +kernel
theorem dX9_advance_11 : decode cX9_advance 11 = .ok (.if_icmp .ge 33, 3) := by decide +kernel
theorem dX9_advance_14 : decode cX9_advance 14 = .ok (.aload_n 0, 1) := by decide +kernel
theorem dX9_advance_15 : decode cX9_advance 15 = .ok (.getfield 18, 3) := by decide +kernel
theorem dX9_advance_18 : decode cX9_advance 18 = .ok (.aload_n 0, 1) := by decide +kernel
theorem dX9_advance_19 : decode cX9_advance 19 = .ok (.getfield 22, 3) := by decide +kernel
theorem dX9_advance_22 : decode cX9_advance 22 = .ok (.invokevirtual 33, 3) := by decide +kernel
theorem dX9_advance_25 : decode cX9_advance 25 = .ok (.invokestatic 37, 3) := by decide +kernel
theorem dX9_advance_28 : decode cX9_advance 28 = .ok (.ifCond .eq 16, 3) := by decide +kernel
theorem dX9_advance_31 : decode cX9_advance 31 = .ok (.aload_n 0, 1) := by decide +kernel
theorem dX9_advance_32 : decode cX9_advance 32 = .ok (.dup, 1) := by decide +kernel
theorem dX9_advance_33 : decode cX9_advance 33 = .ok (.getfield 22, 3) := by decide +kernel
theorem dX9_advance_36 : decode cX9_advance 36 = .ok (.iconst 1, 1) := by decide +kernel
theorem dX9_advance_37 : decode cX9_advance 37 = .ok (.iadd, 1) := by decide +kernel
theorem dX9_advance_38 : decode cX9_advance 38 = .ok (.putfield 22, 3) := by decide +kernel
theorem dX9_advance_41 : decode cX9_advance 41 = .ok (.goto (-41), 3) := by decide +kernel
theorem dX9_advance_44 : decode cX9_advance 44 = .ok (.aload_n 0, 1) := by decide +kernel
theorem dX9_advance_45 : decode cX9_advance 45 = .ok (.aload_n 0, 1) := by decide +kernel
theorem dX9_advance_46 : decode cX9_advance 46 = .ok (.getfield 22, 3) := by decide +kernel
theorem dX9_advance_49 : decode cX9_advance 49 = .ok (.putfield 25, 3) := by decide +kernel
theorem dX9_advance_52 : decode cX9_advance 52 = .ok (.aload_n 0, 1) := by decide +kernel
theorem dX9_advance_53 : decode cX9_advance 53 = .ok (.iconst 0, 1) := by decide +kernel
theorem dX9_advance_54 : decode cX9_advance 54 = .ok (.putfield 41, 3) := by decide +kernel
theorem dX9_advance_57 : decode cX9_advance 57 = .ok (.aload_n 0, 1) := by decide +kernel
theorem dX9_advance_58 : decode cX9_advance 58 = .ok (.getfield 18, 3) := by decide +kernel
theorem dX9_advance_61 : decode cX9_advance 61 = .ok (.aload_n 0, 1) := by decide +kernel
theorem dX9_advance_62 : decode cX9_advance 62 = .ok (.getfield 22, 3) := by decide +kernel
theorem dX9_advance_65 : decode cX9_advance 65 = .ok (.invokevirtual 33, 3) := by decide +kernel
theorem dX9_advance_68 : decode cX9_advance 68 = .ok (.istore_n 1, 1) := by decide +kernel
theorem dX9_advance_69 : decode cX9_advance 69 = .ok (.iload_n 1, 1) := by decide +kernel
theorem dX9_advance_70 : decode cX9_advance 70 = .ok (.invokestatic 44, 3) := by decide +kernel
theorem dX9_advance_73 : decode cX9_advance 73 = .ok (.ifCond .eq 10, 3) := by decide +kernel
theorem dX9_advance_76 : decode cX9_advance 76 = .ok (.aload_n 0, 1) := by decide +kernel
theorem dX9_advance_77 : decode cX9_advance 77 = .ok (.invokevirtual 47, 3) := by decide +kernel
theorem dX9_advance_80 : decode cX9_advance 80 = .ok (.goto 42, 3) := by decide +kernel
theorem dX9_advance_83 : decode cX9_advance 83 = .ok (.iload_n 1, 1) := by decide +kernel
theorem dX9_advance_84 : decode cX9_advance 84 = .ok (.invokestatic 50, 3) := by decide +kernel
theorem dX9_advance_87 : decode cX9_advance 87 = .ok (.ifCond .eq 10, 3) := by decide +kernel
theorem dX9_advance_90 : decode cX9_advance 90 = .ok (.aload_n 0, 1) := by decide +kernel
theorem dX9_advance_91 : decode cX9_advance 91 = .ok (.invokevirtual 53, 3) := by decide +kernel
theorem dX9_advance_94 : decode cX9_advance 94 = .ok (.goto 28, 3) := by decide +kernel
theorem dX9_advance_97 : decode cX9_advance 97 = .ok (.aload_n 0, 1) := by decide +kernel
theorem dX9_advance_98 : decode cX9_advance 98 = .ok (.iload_n 1, 1) := by decide +kernel
theorem dX9_advance_99 : decode cX9_advance 99 = .ok (.bipush 59, 2) := by decide +kernel
theorem dX9_advance_101 : decode cX9_advance 101 = .ok (.if_icmp .ne 7, 3) := by decide +kernel
theorem dX9_advance_104 : decode cX9_advance 104 = .ok (.iconst 3, 1) := by decide +kernel
theorem dX9_advance_105 : decode cX9_advance 105 = .ok (.goto 4, 3) := by decide +kernel
theorem dX9_advance_108 : decode cX9_advance 108 = .ok (.iconst 0, 1) := by decide +kernel
theorem dX9_advance_109 : decode cX9_advance 109 = .ok (.putfield 56, 3) := by decide +kernel
theorem dX9_advance_112 : decode cX9_advance 112 = .ok (.aload_n 0, 1) := by decide +kernel
theorem dX9_advance_113 : decode cX9_advance 113 = .ok (.dup, 1) := by decide +kernel
theorem dX9_advance_114 : decode cX9_advance 114 = .ok (.getfield 22, 3) := by decide +kernel
theorem dX9_advance_117 : decode cX9_advance 117 = .ok (.iconst 1, 1) := by decide +kernel
theorem dX9_advance_118 : decode cX9_advance 118 = .ok (.iadd, 1) := by decide +kernel
theorem dX9_advance_119 : decode cX9_advance 119 = .ok (.putfield 22, 3) := by decide +kernel
theorem dX9_advance_122 : decode cX9_advance 122 = .ok (.iload_n 1, 1) := by decide +kernel
theorem dX9_advance_123 : decode cX9_advance 123 = .ok (.iconst (-1), 1) := by decide +kernel
theorem dX9_advance_124 : decode cX9_advance 124 = .ok (.if_icmp .eq 7, 3) := by decide +kernel
theorem dX9_advance_127 : decode cX9_advance 127 = .ok (.iconst 1, 1) := by decide +kernel
theorem dX9_advance_128 : decode cX9_advance 128 = .ok (.goto 4, 3) := by decide +kernel
theorem dX9_advance_131 : decode cX9_advance 131 = .ok (.iconst 0, 1) := by decide +kernel
theorem dX9_advance_132 : decode cX9_advance 132 = .ok (.ireturn, 1) := by decide +kernel
theorem dX9_readWord_0 : decode cX9_readWord 0 = .ok (.aload_n 0, 1) := by decide +kernel
theorem dX9_readWord_1 : decode cX9_readWord 1 = .ok (.getfield 22, 3) := by decide +kernel
theorem dX9_readWord_4 : decode cX9_readWord 4 = .ok (.aload_n 0, 1) := by decide +kernel
theorem dX9_readWord_5 : decode cX9_readWord 5 = .ok (.getfield 18, 3) := by decide +kernel
theorem dX9_readWord_8 : decode cX9_readWord 8 = .ok (.getfield 28, 3) := by decide +kernel
theorem dX9_readWord_11 : decode cX9_readWord 11 = .ok (.if_icmp .ge 33, 3) := by decide +kernel
theorem dX9_readWord_14 : decode cX9_readWord 14 = .ok (.aload_n 0, 1) := by decide +kernel
theorem dX9_readWord_15 : decode cX9_readWord 15 = .ok (.getfield 18, 3) := by decide +kernel
theorem dX9_readWord_18 : decode cX9_readWord 18 = .ok (.aload_n 0, 1) := by decide +kernel
theorem dX9_readWord_19 : decode cX9_readWord 19 = .ok (.getfield 22, 3) := by decide +kernel
theorem dX9_readWord_22 : decode cX9_readWord 22 = .ok (.invokevirtual 33, 3) := by decide +kernel
theorem dX9_readWord_25 : decode cX9_readWord 25 = .ok (.invokestatic 44, 3) := by decide +kernel
theorem dX9_readWord_28 : decode cX9_readWord 28 = .ok (.ifCond .eq 16, 3) := by decide +kernel
theorem dX9_readWord_31 : decode cX9_readWord 31 = .ok (.aload_n 0, 1) := by decide +kernel
theorem dX9_readWord_32 : decode cX9_readWord 32 = .ok (.dup, 1) := by decide +kernel
theorem dX9_readWord_33 : decode cX9_readWord 33 = .ok (.getfield 22, 3) := by decide +kernel
theorem dX9_readWord_36 : decode cX9_readWord 36 = .ok (.iconst 1, 1) := by decide +kernel
theorem dX9_readWord_37 : decode cX9_readWord 37 = .ok (.iadd, 1) := by decide +kernel
theorem dX9_readWord_38 : decode cX9_readWord 38 = .ok (.putfield 22, 3) := by decide +kernel
theorem dX9_readWord_41 : decode cX9_readWord 41 = .ok (.goto (-41), 3) := by decide +kernel
theorem dX9_readWord_44 : decode cX9_readWord 44 = .ok (.aload_n 0, 1) := by decide +kernel
theorem dX9_readWord_45 : decode cX9_readWord 45 = .ok (.iconst 1, 1) := by decide +kernel
theorem dX9_readWord_46 : decode cX9_readWord 46 = .ok (.putfield 56, 3) := by decide +kernel
theorem dX9_readWord_49 : decode cX9_readWord 49 = .ok (.aload_n 0, 1) := by decide +kernel
theorem dX9_readWord_50 : decode cX9_readWord 50 = .ok (.aload_n 0, 1) := by decide +kernel
theorem dX9_readWord_51 : decode cX9_readWord 51 = .ok (.invokevirtual 59, 3) := by decide +kernel
theorem dX9_readWord_54 : decode cX9_readWord 54 = .ok (.putfield 41, 3) := by decide +kernel
theorem dX9_readWord_57 : decode cX9_readWord 57 = .ok (.return_, 1) := by decide +kernel
theorem dX9_readNumber_0 : decode cX9_readNumber 0 = .ok (.aload_n 0, 1) := by decide +kernel
theorem dX9_readNumber_1 : decode cX9_readNumber 1 = .ok (.iconst 0, 1) := by decide +kernel
theorem dX9_readNumber_2 : decode cX9_readNumber 2 = .ok (.putfield 63, 3) := by decide +kernel
theorem dX9_readNumber_5 : decode cX9_readNumber 5 = .ok (.aload_n 0, 1) := by decide +kernel
theorem dX9_readNumber_6 : decode cX9_readNumber 6 = .ok (.getfield 22, 3) := by decide +kernel
theorem dX9_readNumber_9 : decode cX9_readNumber 9 = .ok (.aload_n 0, 1) := by decide +kernel
theorem dX9_readNumber_10 : decode cX9_readNumber 10 = .ok (.getfield 18, 3) := by decide +kernel
theorem dX9_readNumber_13 : decode cX9_readNumber 13 = .ok (.getfield 28, 3) := by decide +kernel
theorem dX9_readNumber_16 : decode cX9_readNumber 16 = .ok (.if_icmp .ge 59, 3) := by decide +kernel
theorem dX9_readNumber_19 : decode cX9_readNumber 19 = .ok (.aload_n 0, 1) := by decide +kernel
theorem dX9_readNumber_20 : decode cX9_readNumber 20 = .ok (.getfield 18, 3) := by decide +kernel
theorem dX9_readNumber_23 : decode cX9_readNumber 23 = .ok (.aload_n 0, 1) := by decide +kernel
theorem dX9_readNumber_24 : decode cX9_readNumber 24 = .ok (.getfield 22, 3) := by decide +kernel
theorem dX9_readNumber_27 : decode cX9_readNumber 27 = .ok (.invokevirtual 33, 3) := by decide +kernel
theorem dX9_readNumber_30 : decode cX9_readNumber 30 = .ok (.invokestatic 50, 3) := by decide +kernel
theorem dX9_readNumber_33 : decode cX9_readNumber 33 = .ok (.ifCond .eq 42, 3) := by decide +kernel
theorem dX9_readNumber_36 : decode cX9_readNumber 36 = .ok (.aload_n 0, 1) := by decide +kernel
theorem dX9_readNumber_37 : decode cX9_readNumber 37 = .ok (.aload_n 0, 1) := by decide +kernel
theorem dX9_readNumber_38 : decode cX9_readNumber 38 = .ok (.getfield 63, 3) := by decide +kernel
theorem dX9_readNumber_41 : decode cX9_readNumber 41 = .ok (.bipush 10, 2) := by decide +kernel
theorem dX9_readNumber_43 : decode cX9_readNumber 43 = .ok (.imul, 1) := by decide +kernel
theorem dX9_readNumber_44 : decode cX9_readNumber 44 = .ok (.aload_n 0, 1) := by decide +kernel
theorem dX9_readNumber_45 : decode cX9_readNumber 45 = .ok (.getfield 18, 3) := by decide +kernel
theorem dX9_readNumber_48 : decode cX9_readNumber 48 = .ok (.aload_n 0, 1) := by decide +kernel
theorem dX9_readNumber_49 : decode cX9_readNumber 49 = .ok (.getfield 22, 3) := by decide +kernel
theorem dX9_readNumber_52 : decode cX9_readNumber 52 = .ok (.invokevirtual 33, 3) := by decide +kernel
theorem dX9_readNumber_55 : decode cX9_readNumber 55 = .ok (.iadd, 1) := by decide +kernel
theorem dX9_readNumber_56 : decode cX9_readNumber 56 = .ok (.bipush 48, 2) := by decide +kernel
theorem dX9_readNumber_58 : decode cX9_readNumber 58 = .ok (.isub, 1) := by decide +kernel
theorem dX9_readNumber_59 : decode cX9_readNumber 59 = .ok (.putfield 63, 3) := by decide +kernel
theorem dX9_readNumber_62 : decode cX9_readNumber 62 = .ok (.aload_n 0, 1) := by decide +kernel
theorem dX9_readNumber_63 : decode cX9_readNumber 63 = .ok (.dup, 1) := by decide +kernel
theorem dX9_readNumber_64 : decode cX9_readNumber 64 = .ok (.getfield 22, 3) := by decide +kernel
theorem dX9_readNumber_67 : decode cX9_readNumber 67 = .ok (.iconst 1, 1) := by decide +kernel
theorem dX9_readNumber_68 : decode cX9_readNumber 68 = .ok (.iadd, 1) := by decide +kernel
theorem dX9_readNumber_69 : decode cX9_readNumber 69 = .ok (.putfield 22, 3) := by decide +kernel
theorem dX9_readNumber_72 : decode cX9_readNumber 72 = .ok (.goto (-67), 3) := by decide +kernel
theorem dX9_readNumber_75 : decode cX9_readNumber 75 = .ok (.aload_n 0, 1) := by decide +kernel
theorem dX9_readNumber_76 : decode cX9_readNumber 76 = .ok (.aload_n 0, 1) := by decide +kernel
theorem dX9_readNumber_77 : decode cX9_readNumber 77 = .ok (.getfield 22, 3) := by decide +kernel
theorem dX9_readNumber_80 : decode cX9_readNumber 80 = .ok (.aload_n 0, 1) := by decide +kernel
theorem dX9_readNumber_81 : decode cX9_readNumber 81 = .ok (.getfield 25, 3) := by decide +kernel
theorem dX9_readNumber_84 : decode cX9_readNumber 84 = .ok (.isub, 1) := by decide +kernel
theorem dX9_readNumber_85 : decode cX9_readNumber 85 = .ok (.iconst 3, 1) := by decide +kernel
theorem dX9_readNumber_86 : decode cX9_readNumber 86 = .ok (.if_icmp .le 7, 3) := by decide +kernel
theorem dX9_readNumber_89 : decode cX9_readNumber 89 = .ok (.iconst 0, 1) := by decide +kernel
theorem dX9_readNumber_90 : decode cX9_readNumber 90 = .ok (.goto 4, 3) := by decide +kernel
theorem dX9_readNumber_93 : decode cX9_readNumber 93 = .ok (.iconst 2, 1) := by decide +kernel
theorem dX9_readNumber_94 : decode cX9_readNumber 94 = .ok (.putfield 56, 3) := by decide +kernel
theorem dX9_readNumber_97 : decode cX9_readNumber 97 = .ok (.return_, 1) := by decide +kernel
theorem dX9_knownWord_0 : decode cX9_knownWord 0 = .ok (.aload_n 0, 1) := by decide +kernel
theorem dX9_knownWord_1 : decode cX9_knownWord 1 = .ok (.ldc 66, 2) := by decide +kernel
theorem dX9_knownWord_3 : decode cX9_knownWord 3 = .ok (.invokevirtual 68, 3) := by decide +kernel
theorem dX9_knownWord_6 : decode cX9_knownWord 6 = .ok (.ifCond .eq 5, 3) := by decide +kernel
theorem dX9_knownWord_9 : decode cX9_knownWord 9 = .ok (.iconst 1, 1) := by decide +kernel
theorem dX9_knownWord_10 : decode cX9_knownWord 10 = .ok (.ireturn, 1) := by decide +kernel
theorem dX9_knownWord_11 : decode cX9_knownWord 11 = .ok (.aload_n 0, 1) := by decide +kernel
theorem dX9_knownWord_12 : decode cX9_knownWord 12 = .ok (.ldc 72, 2) := by decide +kernel
theorem dX9_knownWord_14 : decode cX9_knownWord 14 = .ok (.invokevirtual 68, 3) := by decide +kernel
theorem dX9_knownWord_17 : decode cX9_knownWord 17 = .ok (.ifCond .eq 5, 3) := by decide +kernel
theorem dX9_knownWord_20 : decode cX9_knownWord 20 = .ok (.iconst 2, 1) := by decide +kernel
theorem dX9_knownWord_21 : decode cX9_knownWord 21 = .ok (.ireturn, 1) := by decide +kernel
theorem dX9_knownWord_22 : decode cX9_knownWord 22 = .ok (.aload_n 0, 1) := by decide +kernel
theorem dX9_knownWord_23 : decode cX9_knownWord 23 = .ok (.ldc 74, 2) := by decide +kernel
theorem dX9_knownWord_25 : decode cX9_knownWord 25 = .ok (.invokevirtual 68, 3) := by decide +kernel
theorem dX9_knownWord_28 : decode cX9_knownWord 28 = .ok (.ifCond .eq 5, 3) := by decide +kernel
theorem dX9_knownWord_31 : decode cX9_knownWord 31 = .ok (.iconst 3, 1) := by decide +kernel
theorem dX9_knownWord_32 : decode cX9_knownWord 32 = .ok (.ireturn, 1) := by decide +kernel
theorem dX9_knownWord_33 : decode cX9_knownWord 33 = .ok (.aload_n 0, 1) := by decide +kernel
theorem dX9_knownWord_34 : decode cX9_knownWord 34 = .ok (.ldc 76, 2) := by decide +kernel
theorem dX9_knownWord_36 : decode cX9_knownWord 36 = .ok (.invokevirtual 68, 3) := by decide +kernel
theorem dX9_knownWord_39 : decode cX9_knownWord 39 = .ok (.ifCond .eq 5, 3) := by decide +kernel
theorem dX9_knownWord_42 : decode cX9_knownWord 42 = .ok (.iconst 4, 1) := by decide +kernel
theorem dX9_knownWord_43 : decode cX9_knownWord 43 = .ok (.ireturn, 1) := by decide +kernel
theorem dX9_knownWord_44 : decode cX9_knownWord 44 = .ok (.aload_n 0, 1) := by decide +kernel
theorem dX9_knownWord_45 : decode cX9_knownWord 45 = .ok (.ldc 78, 2) := by decide +kernel
theorem dX9_knownWord_47 : decode cX9_knownWord 47 = .ok (.invokevirtual 68, 3) := by decide +kernel
theorem dX9_knownWord_50 : decode cX9_knownWord 50 = .ok (.ifCond .eq 5, 3) := by decide +kernel
theorem dX9_knownWord_53 : decode cX9_knownWord 53 = .ok (.iconst 5, 1) := by decide +kernel
theorem dX9_knownWord_54 : decode cX9_knownWord 54 = .ok (.ireturn, 1) := by decide +kernel
theorem dX9_knownWord_55 : decode cX9_knownWord 55 = .ok (.aload_n 0, 1) := by decide +kernel
theorem dX9_knownWord_56 : decode cX9_knownWord 56 = .ok (.ldc 80, 2) := by decide +kernel
theorem dX9_knownWord_58 : decode cX9_knownWord 58 = .ok (.invokevirtual 68, 3) := by decide +kernel
theorem dX9_knownWord_61 : decode cX9_knownWord 61 = .ok (.ifCond .eq 6, 3) := by decide +kernel
theorem dX9_knownWord_64 : decode cX9_knownWord 64 = .ok (.bipush 6, 2) := by decide +kernel
theorem dX9_knownWord_66 : decode cX9_knownWord 66 = .ok (.ireturn, 1) := by decide +kernel
theorem dX9_knownWord_67 : decode cX9_knownWord 67 = .ok (.aload_n 0, 1) := by decide +kernel
theorem dX9_knownWord_68 : decode cX9_knownWord 68 = .ok (.ldc 82, 2) := by decide +kernel
theorem dX9_knownWord_70 : decode cX9_knownWord 70 = .ok (.invokevirtual 68, 3) := by decide +kernel
theorem dX9_knownWord_73 : decode cX9_knownWord 73 = .ok (.ifCond .eq 8, 3) := by decide +kernel
theorem dX9_knownWord_76 : decode cX9_knownWord 76 = .ok (.bipush 7, 2) := by decide +kernel
theorem dX9_knownWord_78 : decode cX9_knownWord 78 = .ok (.goto 4, 3) := by decide +kernel
theorem dX9_knownWord_81 : decode cX9_knownWord 81 = .ok (.iconst 0, 1) := by decide +kernel
theorem dX9_knownWord_82 : decode cX9_knownWord 82 = .ok (.ireturn, 1) := by decide +kernel
theorem dX9_spells_0 : decode cX9_spells 0 = .ok (.aload_n 0, 1) := by decide +kernel
theorem dX9_spells_1 : decode cX9_spells 1 = .ok (.getfield 22, 3) := by decide +kernel
theorem dX9_spells_4 : decode cX9_spells 4 = .ok (.aload_n 0, 1) := by decide +kernel
theorem dX9_spells_5 : decode cX9_spells 5 = .ok (.getfield 25, 3) := by decide +kernel
theorem dX9_spells_8 : decode cX9_spells 8 = .ok (.isub, 1) := by decide +kernel
theorem dX9_spells_9 : decode cX9_spells 9 = .ok (.aload_n 1, 1) := by decide +kernel
theorem dX9_spells_10 : decode cX9_spells 10 = .ok (.invokevirtual 84, 3) := by decide +kernel
theorem dX9_spells_13 : decode cX9_spells 13 = .ok (.if_icmp .eq 5, 3) := by decide +kernel
theorem dX9_spells_16 : decode cX9_spells 16 = .ok (.iconst 0, 1) := by decide +kernel
theorem dX9_spells_17 : decode cX9_spells 17 = .ok (.ireturn, 1) := by decide +kernel
theorem dX9_spells_18 : decode cX9_spells 18 = .ok (.iconst 0, 1) := by decide +kernel
theorem dX9_spells_19 : decode cX9_spells 19 = .ok (.istore_n 2, 1) := by decide +kernel
theorem dX9_spells_20 : decode cX9_spells 20 = .ok (.iload_n 2, 1) := by decide +kernel
theorem dX9_spells_21 : decode cX9_spells 21 = .ok (.aload_n 1, 1) := by decide +kernel
theorem dX9_spells_22 : decode cX9_spells 22 = .ok (.invokevirtual 84, 3) := by decide +kernel
theorem dX9_spells_25 : decode cX9_spells 25 = .ok (.if_icmp .ge 32, 3) := by decide +kernel
theorem dX9_spells_28 : decode cX9_spells 28 = .ok (.aload_n 0, 1) := by decide +kernel
theorem dX9_spells_29 : decode cX9_spells 29 = .ok (.getfield 18, 3) := by decide +kernel
theorem dX9_spells_32 : decode cX9_spells 32 = .ok (.aload_n 0, 1) := by decide +kernel
theorem dX9_spells_33 : decode cX9_spells 33 = .ok (.getfield 25, 3) := by decide +kernel
theorem dX9_spells_36 : decode cX9_spells 36 = .ok (.iload_n 2, 1) := by decide +kernel
theorem dX9_spells_37 : decode cX9_spells 37 = .ok (.iadd, 1) := by decide +kernel
theorem dX9_spells_38 : decode cX9_spells 38 = .ok (.invokevirtual 33, 3) := by decide +kernel
theorem dX9_spells_41 : decode cX9_spells 41 = .ok (.aload_n 1, 1) := by decide +kernel
theorem dX9_spells_42 : decode cX9_spells 42 = .ok (.iload_n 2, 1) := by decide +kernel
theorem dX9_spells_43 : decode cX9_spells 43 = .ok (.invokevirtual 88, 3) := by decide +kernel
theorem dX9_spells_46 : decode cX9_spells 46 = .ok (.if_icmp .eq 5, 3) := by decide +kernel
theorem dX9_spells_49 : decode cX9_spells 49 = .ok (.iconst 0, 1) := by decide +kernel
theorem dX9_spells_50 : decode cX9_spells 50 = .ok (.ireturn, 1) := by decide +kernel
theorem dX9_spells_51 : decode cX9_spells 51 = .ok (.iinc 2 1, 3) := by decide +kernel
theorem dX9_spells_54 : decode cX9_spells 54 = .ok (.goto (-34), 3) := by decide +kernel
theorem dX9_spells_57 : decode cX9_spells 57 = .ok (.iconst 1, 1) := by decide +kernel
theorem dX9_spells_58 : decode cX9_spells 58 = .ok (.ireturn, 1) := by decide +kernel
theorem dX9_isBlank_0 : decode cX9_isBlank 0 = .ok (.iload_n 0, 1) := by decide +kernel
theorem dX9_isBlank_1 : decode cX9_isBlank 1 = .ok (.bipush 32, 2) := by decide +kernel
theorem dX9_isBlank_3 : decode cX9_isBlank 3 = .ok (.if_icmp .eq 9, 3) := by decide +kernel
theorem dX9_isBlank_6 : decode cX9_isBlank 6 = .ok (.iload_n 0, 1) := by decide +kernel
theorem dX9_isBlank_7 : decode cX9_isBlank 7 = .ok (.bipush 10, 2) := by decide +kernel
theorem dX9_isBlank_9 : decode cX9_isBlank 9 = .ok (.if_icmp .ne 7, 3) := by decide +kernel
theorem dX9_isBlank_12 : decode cX9_isBlank 12 = .ok (.iconst 1, 1) := by decide +kernel
theorem dX9_isBlank_13 : decode cX9_isBlank 13 = .ok (.goto 4, 3) := by decide +kernel
theorem dX9_isBlank_16 : decode cX9_isBlank 16 = .ok (.iconst 0, 1) := by decide +kernel
theorem dX9_isBlank_17 : decode cX9_isBlank 17 = .ok (.ireturn, 1) := by decide +kernel
theorem dX9_isLetter_0 : decode cX9_isLetter 0 = .ok (.iload_n 0, 1) := by decide +kernel
theorem dX9_isLetter_1 : decode cX9_isLetter 1 = .ok (.bipush 97, 2) := by decide +kernel
theorem dX9_isLetter_3 : decode cX9_isLetter 3 = .ok (.if_icmp .lt 13, 3) := by decide +kernel
theorem dX9_isLetter_6 : decode cX9_isLetter 6 = .ok (.iload_n 0, 1) := by decide +kernel
theorem dX9_isLetter_7 : decode cX9_isLetter 7 = .ok (.bipush 122, 2) := by decide +kernel
theorem dX9_isLetter_9 : decode cX9_isLetter 9 = .ok (.if_icmp .gt 7, 3) := by decide +kernel
theorem dX9_isLetter_12 : decode cX9_isLetter 12 = .ok (.iconst 1, 1) := by decide +kernel
theorem dX9_isLetter_13 : decode cX9_isLetter 13 = .ok (.goto 4, 3) := by decide +kernel
theorem dX9_isLetter_16 : decode cX9_isLetter 16 = .ok (.iconst 0, 1) := by decide +kernel
theorem dX9_isLetter_17 : decode cX9_isLetter 17 = .ok (.ireturn, 1) := by decide +kernel
theorem dX9_isDigit_0 : decode cX9_isDigit 0 = .ok (.iload_n 0, 1) := by decide +kernel
theorem dX9_isDigit_1 : decode cX9_isDigit 1 = .ok (.bipush 48, 2) := by decide +kernel
theorem dX9_isDigit_3 : decode cX9_isDigit 3 = .ok (.if_icmp .lt 13, 3) := by decide +kernel
theorem dX9_isDigit_6 : decode cX9_isDigit 6 = .ok (.iload_n 0, 1) := by decide +kernel
theorem dX9_isDigit_7 : decode cX9_isDigit 7 = .ok (.bipush 57, 2) := by decide +kernel
theorem dX9_isDigit_9 : decode cX9_isDigit 9 = .ok (.if_icmp .gt 7, 3) := by decide +kernel
theorem dX9_isDigit_12 : decode cX9_isDigit 12 = .ok (.iconst 1, 1) := by decide +kernel
theorem dX9_isDigit_13 : decode cX9_isDigit 13 = .ok (.goto 4, 3) := by decide +kernel
theorem dX9_isDigit_16 : decode cX9_isDigit 16 = .ok (.iconst 0, 1) := by decide +kernel
theorem dX9_isDigit_17 : decode cX9_isDigit 17 = .ok (.ireturn, 1) := by decide +kernel
theorem dX10_init_0 : decode cX10_init 0 = .ok (.aload_n 0, 1) := by decide +kernel
theorem dX10_init_1 : decode cX10_init 1 = .ok (.invokespecial 3, 3) := by decide +kernel
theorem dX10_init_4 : decode cX10_init 4 = .ok (.aload_n 0, 1) := by decide +kernel
theorem dX10_init_5 : decode cX10_init 5 = .ok (.bipush 40, 2) := by decide +kernel
theorem dX10_init_7 : decode cX10_init 7 = .ok (.newarray .int, 2) := by decide +kernel
theorem dX10_init_9 : decode cX10_init 9 = .ok (.putfield 9, 3) := by decide +kernel
theorem dX10_init_12 : decode cX10_init 12 = .ok (.aload_n 0, 1) := by decide +kernel
theorem dX10_init_13 : decode cX10_init 13 = .ok (.bipush 40, 2) := by decide +kernel
theorem dX10_init_15 : decode cX10_init 15 = .ok (.newarray .int, 2) := by decide +kernel
theorem dX10_init_17 : decode cX10_init 17 = .ok (.putfield 15, 3) := by decide +kernel
theorem dX10_init_20 : decode cX10_init 20 = .ok (.aload_n 0, 1) := by decide +kernel
theorem dX10_init_21 : decode cX10_init 21 = .ok (.bipush 40, 2) := by decide +kernel
theorem dX10_init_23 : decode cX10_init 23 = .ok (.newarray .int, 2) := by decide +kernel
theorem dX10_init_25 : decode cX10_init 25 = .ok (.putfield 18, 3) := by decide +kernel
theorem dX10_init_28 : decode cX10_init 28 = .ok (.aload_n 0, 1) := by decide +kernel
theorem dX10_init_29 : decode cX10_init 29 = .ok (.bipush 40, 2) := by decide +kernel
theorem dX10_init_31 : decode cX10_init 31 = .ok (.newarray .int, 2) := by decide +kernel
theorem dX10_init_33 : decode cX10_init 33 = .ok (.putfield 21, 3) := by decide +kernel
theorem dX10_init_36 : decode cX10_init 36 = .ok (.aload_n 0, 1) := by decide +kernel
theorem dX10_init_37 : decode cX10_init 37 = .ok (.bipush 40, 2) := by decide +kernel
theorem dX10_init_39 : decode cX10_init 39 = .ok (.newarray .int, 2) := by decide +kernel
theorem dX10_init_41 : decode cX10_init 41 = .ok (.putfield 24, 3) := by decide +kernel
theorem dX10_init_44 : decode cX10_init 44 = .ok (.aload_n 0, 1) := by decide +kernel
theorem dX10_init_45 : decode cX10_init 45 = .ok (.bipush 40, 2) := by decide +kernel
theorem dX10_init_47 : decode cX10_init 47 = .ok (.newarray .int, 2) := by decide +kernel
theorem dX10_init_49 : decode cX10_init 49 = .ok (.putfield 27, 3) := by decide +kernel
theorem dX10_init_52 : decode cX10_init 52 = .ok (.aload_n 0, 1) := by decide +kernel
theorem dX10_init_53 : decode cX10_init 53 = .ok (.bipush 64, 2) := by decide +kernel
theorem dX10_init_55 : decode cX10_init 55 = .ok (.newarray .int, 2) := by decide +kernel
theorem dX10_init_57 : decode cX10_init 57 = .ok (.putfield 30, 3) := by decide +kernel
theorem dX10_init_60 : decode cX10_init 60 = .ok (.aload_n 0, 1) := by decide +kernel
theorem dX10_init_61 : decode cX10_init 61 = .ok (.bipush 40, 2) := by decide +kernel
theorem dX10_init_63 : decode cX10_init 63 = .ok (.newarray .boolean, 2) := by decide +kernel
theorem dX10_init_65 : decode cX10_init 65 = .ok (.putfield 33, 3) := by decide +kernel
theorem dX10_init_68 : decode cX10_init 68 = .ok (.return_, 1) := by decide +kernel
theorem dX10_copyFrom_0 : decode cX10_copyFrom 0 = .ok (.aload_n 0, 1) := by decide +kernel
theorem dX10_copyFrom_1 : decode cX10_copyFrom 1 = .ok (.aload_n 1, 1) := by decide +kernel
theorem dX10_copyFrom_2 : decode cX10_copyFrom 2 = .ok (.getfield 37, 3) := by decide +kernel
theorem dX10_copyFrom_5 : decode cX10_copyFrom 5 = .ok (.putfield 37, 3) := by decide +kernel
theorem dX10_copyFrom_8 : decode cX10_copyFrom 8 = .ok (.aload_n 1, 1) := by decide +kernel
theorem dX10_copyFrom_9 : decode cX10_copyFrom 9 = .ok (.getfield 9, 3) := by decide +kernel
theorem dX10_copyFrom_12 : decode cX10_copyFrom 12 = .ok (.aload_n 0, 1) := by decide +kernel
theorem dX10_copyFrom_13 : decode cX10_copyFrom 13 = .ok (.getfield 9, 3) := by decide +kernel
theorem dX10_copyFrom_16 : decode cX10_copyFrom 16 = .ok (.invokestatic 41, 3) := by decide +kernel
theorem dX10_copyFrom_19 : decode cX10_copyFrom 19 = .ok (.aload_n 1, 1) := by decide +kernel
theorem dX10_copyFrom_20 : decode cX10_copyFrom 20 = .ok (.getfield 15, 3) := by decide +kernel
theorem dX10_copyFrom_23 : decode cX10_copyFrom 23 = .ok (.aload_n 0, 1) := by decide +kernel
theorem dX10_copyFrom_24 : decode cX10_copyFrom 24 = .ok (.getfield 15, 3) := by decide +kernel
theorem dX10_copyFrom_27 : decode cX10_copyFrom 27 = .ok (.invokestatic 41, 3) := by decide +kernel
theorem dX10_copyFrom_30 : decode cX10_copyFrom 30 = .ok (.aload_n 1, 1) := by decide +kernel
theorem dX10_copyFrom_31 : decode cX10_copyFrom 31 = .ok (.getfield 18, 3) := by decide +kernel
theorem dX10_copyFrom_34 : decode cX10_copyFrom 34 = .ok (.aload_n 0, 1) := by decide +kernel
theorem dX10_copyFrom_35 : decode cX10_copyFrom 35 = .ok (.getfield 18, 3) := by decide +kernel
theorem dX10_copyFrom_38 : decode cX10_copyFrom 38 = .ok (.invokestatic 41, 3) := by decide +kernel
theorem dX10_copyFrom_41 : decode cX10_copyFrom 41 = .ok (.aload_n 1, 1) := by decide +kernel
theorem dX10_copyFrom_42 : decode cX10_copyFrom 42 = .ok (.getfield 21, 3) := by decide +kernel
theorem dX10_copyFrom_45 : decode cX10_copyFrom 45 = .ok (.aload_n 0, 1) := by decide +kernel
theorem dX10_copyFrom_46 : decode cX10_copyFrom 46 = .ok (.getfield 21, 3) := by decide +kernel
theorem dX10_copyFrom_49 : decode cX10_copyFrom 49 = .ok (.invokestatic 41, 3) := by decide +kernel
theorem dX10_copyFrom_52 : decode cX10_copyFrom 52 = .ok (.aload_n 1, 1) := by decide +kernel
theorem dX10_copyFrom_53 : decode cX10_copyFrom 53 = .ok (.getfield 24, 3) := by decide +kernel
theorem dX10_copyFrom_56 : decode cX10_copyFrom 56 = .ok (.aload_n 0, 1) := by decide +kernel
theorem dX10_copyFrom_57 : decode cX10_copyFrom 57 = .ok (.getfield 24, 3) := by decide +kernel
theorem dX10_copyFrom_60 : decode cX10_copyFrom 60 = .ok (.invokestatic 41, 3) := by decide +kernel
theorem dX10_copyFrom_63 : decode cX10_copyFrom 63 = .ok (.aload_n 1, 1) := by decide +kernel
theorem dX10_copyFrom_64 : decode cX10_copyFrom 64 = .ok (.getfield 27, 3) := by decide +kernel
theorem dX10_copyFrom_67 : decode cX10_copyFrom 67 = .ok (.aload_n 0, 1) := by decide +kernel
theorem dX10_copyFrom_68 : decode cX10_copyFrom 68 = .ok (.getfield 27, 3) := by decide +kernel
theorem dX10_copyFrom_71 : decode cX10_copyFrom 71 = .ok (.invokestatic 41, 3) := by decide +kernel
theorem dX10_copyFrom_74 : decode cX10_copyFrom 74 = .ok (.aload_n 1, 1) := by decide +kernel
theorem dX10_copyFrom_75 : decode cX10_copyFrom 75 = .ok (.getfield 30, 3) := by decide +kernel
theorem dX10_copyFrom_78 : decode cX10_copyFrom 78 = .ok (.aload_n 0, 1) := by decide +kernel
theorem dX10_copyFrom_79 : decode cX10_copyFrom 79 = .ok (.getfield 30, 3) := by decide +kernel
theorem dX10_copyFrom_82 : decode cX10_copyFrom 82 = .ok (.invokestatic 41, 3) := by decide +kernel
theorem dX10_copyFrom_85 : decode cX10_copyFrom 85 = .ok (.aload_n 1, 1) := by decide +kernel
theorem dX10_copyFrom_86 : decode cX10_copyFrom 86 = .ok (.getfield 33, 3) := by decide +kernel
theorem dX10_copyFrom_89 : decode cX10_copyFrom 89 = .ok (.iconst 0, 1) := by decide +kernel
theorem dX10_copyFrom_90 : decode cX10_copyFrom 90 = .ok (.aload_n 0, 1) := by decide +kernel
theorem dX10_copyFrom_91 : decode cX10_copyFrom 91 = .ok (.getfield 33, 3) := by decide +kernel
theorem dX10_copyFrom_94 : decode cX10_copyFrom 94 = .ok (.iconst 0, 1) := by decide +kernel
theorem dX10_copyFrom_95 : decode cX10_copyFrom 95 = .ok (.bipush 40, 2) := by decide +kernel
theorem dX10_copyFrom_97 : decode cX10_copyFrom 97 = .ok (.invokestatic 45, 3) := by decide +kernel
theorem dX10_copyFrom_100 : decode cX10_copyFrom 100 = .ok (.return_, 1) := by decide +kernel
theorem dX10_begin_0 : decode cX10_begin 0 = .ok (.aload_n 1, 1) := by decide +kernel
theorem dX10_begin_1 : decode cX10_begin 1 = .ok (.aload_n 0, 1) := by decide +kernel
theorem dX10_begin_2 : decode cX10_begin 2 = .ok (.getfield 30, 3) := by decide +kernel
theorem dX10_begin_5 : decode cX10_begin 5 = .ok (.invokestatic 41, 3) := by decide +kernel
theorem dX10_begin_8 : decode cX10_begin 8 = .ok (.aload_n 0, 1) := by decide +kernel
theorem dX10_begin_9 : decode cX10_begin 9 = .ok (.iconst 0, 1) := by decide +kernel
theorem dX10_begin_10 : decode cX10_begin 10 = .ok (.putfield 37, 3) := by decide +kernel
theorem dX10_begin_13 : decode cX10_begin 13 = .ok (.aload_n 0, 1) := by decide +kernel
theorem dX10_begin_14 : decode cX10_begin 14 = .ok (.iconst (-1), 1) := by decide +kernel
theorem dX10_begin_15 : decode cX10_begin 15 = .ok (.iload_n 3, 1) := by decide +kernel
theorem dX10_begin_16 : decode cX10_begin 16 = .ok (.iload_n 2, 1) := by decide +kernel
theorem dX10_begin_17 : decode cX10_begin 17 = .ok (.iload 4, 2) := by decide +kernel
theorem dX10_begin_19 : decode cX10_begin 19 = .ok (.iconst (-1), 1) := by decide +kernel
theorem dX10_begin_20 : decode cX10_begin 20 = .ok (.iconst 0, 1) := by decide +kernel
theorem dX10_begin_21 : decode cX10_begin 21 = .ok (.invokevirtual 49, 3) := by decide +kernel
theorem dX10_begin_24 : decode cX10_begin 24 = .ok (.pop, 1) := by decide +kernel
theorem dX10_begin_25 : decode cX10_begin 25 = .ok (.return_, 1) := by decide +kernel
theorem dX10_add_0 : decode cX10_add 0 = .ok (.aload_n 0, 1) := by decide +kernel
theorem dX10_add_1 : decode cX10_add 1 = .ok (.getfield 37, 3) := by decide +kernel
theorem dX10_add_4 : decode cX10_add 4 = .ok (.istore 7, 2) := by decide +kernel
theorem dX10_add_6 : decode cX10_add 6 = .ok (.aload_n 0, 1) := by decide +kernel
theorem dX10_add_7 : decode cX10_add 7 = .ok (.getfield 9, 3) := by decide +kernel
theorem dX10_add_10 : decode cX10_add 10 = .ok (.iload 7, 2) := by decide +kernel
theorem dX10_add_12 : decode cX10_add 12 = .ok (.iload_n 1, 1) := by decide +kernel
theorem dX10_add_13 : decode cX10_add 13 = .ok (.invokestatic 53, 3) := by decide +kernel
theorem dX10_add_16 : decode cX10_add 16 = .ok (.aload_n 0, 1) := by decide +kernel
theorem dX10_add_17 : decode cX10_add 17 = .ok (.getfield 15, 3) := by decide +kernel
theorem dX10_add_20 : decode cX10_add 20 = .ok (.iload 7, 2) := by decide +kernel
theorem dX10_add_22 : decode cX10_add 22 = .ok (.iload_n 2, 1) := by decide +kernel
theorem dX10_add_23 : decode cX10_add 23 = .ok (.invokestatic 53, 3) := by decide +kernel
theorem dX10_add_26 : decode cX10_add 26 = .ok (.aload_n 0, 1) := by decide +kernel
theorem dX10_add_27 : decode cX10_add 27 = .ok (.getfield 18, 3) := by decide +kernel
theorem dX10_add_30 : decode cX10_add 30 = .ok (.iload 7, 2) := by decide +kernel
theorem dX10_add_32 : decode cX10_add 32 = .ok (.iload_n 3, 1) := by decide +kernel
theorem dX10_add_33 : decode cX10_add 33 = .ok (.invokestatic 53, 3) := by decide +kernel
theorem dX10_add_36 : decode cX10_add 36 = .ok (.aload_n 0, 1) := by decide +kernel
theorem dX10_add_37 : decode cX10_add 37 = .ok (.getfield 21, 3) := by decide +kernel
theorem dX10_add_40 : decode cX10_add 40 = .ok (.iload 7, 2) := by decide +kernel
theorem dX10_add_42 : decode cX10_add 42 = .ok (.iload 4, 2) := by decide +kernel
theorem dX10_add_44 : decode cX10_add 44 = .ok (.invokestatic 53, 3) := by decide +kernel
theorem dX10_add_47 : decode cX10_add 47 = .ok (.aload_n 0, 1) := by decide +kernel
theorem dX10_add_48 : decode cX10_add 48 = .ok (.getfield 24, 3) := by decide +kernel
theorem dX10_add_51 : decode cX10_add 51 = .ok (.iload 7, 2) := by decide +kernel
theorem dX10_add_53 : decode cX10_add 53 = .ok (.iload 5, 2) := by decide +kernel
theorem dX10_add_55 : decode cX10_add 55 = .ok (.invokestatic 53, 3) := by decide +kernel
theorem dX10_add_58 : decode cX10_add 58 = .ok (.aload_n 0, 1) := by decide +kernel
theorem dX10_add_59 : decode cX10_add 59 = .ok (.getfield 27, 3) := by decide +kernel
theorem dX10_add_62 : decode cX10_add 62 = .ok (.iload 7, 2) := by decide +kernel
theorem dX10_add_64 : decode cX10_add 64 = .ok (.iload 6, 2) := by decide +kernel
theorem dX10_add_66 : decode cX10_add 66 = .ok (.invokestatic 53, 3) := by decide +kernel
theorem dX10_add_69 : decode cX10_add 69 = .ok (.aload_n 0, 1) := by decide +kernel
theorem dX10_add_70 : decode cX10_add 70 = .ok (.getfield 33, 3) := by decide +kernel
theorem dX10_add_73 : decode cX10_add 73 = .ok (.iload 7, 2) := by decide +kernel
theorem dX10_add_75 : decode cX10_add 75 = .ok (.iconst 0, 1) := by decide +kernel
theorem dX10_add_76 : decode cX10_add 76 = .ok (.invokestatic 57, 3) := by decide +kernel
theorem dX10_add_79 : decode cX10_add 79 = .ok (.aload_n 0, 1) := by decide +kernel
theorem dX10_add_80 : decode cX10_add 80 = .ok (.dup, 1) := by decide +kernel
theorem dX10_add_81 : decode cX10_add 81 = .ok (.getfield 37, 3) := by decide +kernel
theorem dX10_add_84 : decode cX10_add 84 = .ok (.iconst 1, 1) := by decide +kernel
theorem dX10_add_85 : decode cX10_add 85 = .ok (.iadd, 1) := by decide +kernel
theorem dX10_add_86 : decode cX10_add 86 = .ok (.putfield 37, 3) := by decide +kernel
theorem dX10_add_89 : decode cX10_add 89 = .ok (.iload 7, 2) := by decide +kernel
theorem dX10_add_91 : decode cX10_add 91 = .ok (.ireturn, 1) := by decide +kernel
theorem dX10_drop_0 : decode cX10_drop 0 = .ok (.aload_n 0, 1) := by decide +kernel
theorem dX10_drop_1 : decode cX10_drop 1 = .ok (.getfield 33, 3) := by decide +kernel
theorem dX10_drop_4 : decode cX10_drop 4 = .ok (.iload_n 1, 1) := by decide +kernel
theorem dX10_drop_5 : decode cX10_drop 5 = .ok (.iconst 1, 1) := by decide +kernel
theorem dX10_drop_6 : decode cX10_drop 6 = .ok (.invokestatic 57, 3) := by decide +kernel
theorem dX10_drop_9 : decode cX10_drop 9 = .ok (.return_, 1) := by decide +kernel
theorem dX10_has_0 : decode cX10_has 0 = .ok (.iload_n 1, 1) := by decide +kernel
theorem dX10_has_1 : decode cX10_has 1 = .ok (.ifCond .lt 15, 3) := by decide +kernel
theorem dX10_has_4 : decode cX10_has 4 = .ok (.iload_n 1, 1) := by decide +kernel
theorem dX10_has_5 : decode cX10_has 5 = .ok (.aload_n 0, 1) := by decide +kernel
theorem dX10_has_6 : decode cX10_has 6 = .ok (.getfield 37, 3) := by decide +kernel
theorem dX10_has_9 : decode cX10_has 9 = .ok (.if_icmp .ge 7, 3) := by decide +kernel
theorem dX10_has_12 : decode cX10_has 12 = .ok (.iconst 1, 1) := by decide +kernel
theorem dX10_has_13 : decode cX10_has 13 = .ok (.goto 4, 3) := by decide +kernel
theorem dX10_has_16 : decode cX10_has 16 = .ok (.iconst 0, 1) := by decide +kernel
theorem dX10_has_17 : decode cX10_has 17 = .ok (.ireturn, 1) := by decide +kernel
theorem dX10_isLive_0 : decode cX10_isLive 0 = .ok (.aload_n 0, 1) := by decide +kernel
theorem dX10_isLive_1 : decode cX10_isLive 1 = .ok (.iload_n 1, 1) := by decide +kernel
theorem dX10_isLive_2 : decode cX10_isLive 2 = .ok (.invokevirtual 61, 3) := by decide +kernel
theorem dX10_isLive_5 : decode cX10_isLive 5 = .ok (.ifCond .eq 18, 3) := by decide +kernel
theorem dX10_isLive_8 : decode cX10_isLive 8 = .ok (.aload_n 0, 1) := by decide +kernel
theorem dX10_isLive_9 : decode cX10_isLive 9 = .ok (.getfield 33, 3) := by decide +kernel
theorem dX10_isLive_12 : decode cX10_isLive 12 = .ok (.iload_n 1, 1) := by decide +kernel
theorem dX10_isLive_13 : decode cX10_isLive 13 = .ok (.invokestatic 65, 3) := by decide +kernel
theorem dX10_isLive_16 : decode cX10_isLive 16 = .ok (.ifCond .ne 7, 3) := by decide +kernel
theorem dX10_isLive_19 : decode cX10_isLive 19 = .ok (.iconst 1, 1) := by decide +kernel
theorem dX10_isLive_20 : decode cX10_isLive 20 = .ok (.goto 4, 3) := by decide +kernel
theorem dX10_isLive_23 : decode cX10_isLive 23 = .ok (.iconst 0, 1) := by decide +kernel
theorem dX10_isLive_24 : decode cX10_isLive 24 = .ok (.ireturn, 1) := by decide +kernel
theorem dX10_parentAt_0 : decode cX10_parentAt 0 = .ok (.aload_n 0, 1) := by decide +kernel
theorem dX10_parentAt_1 : decode cX10_parentAt 1 = .ok (.getfield 9, 3) := by decide +kernel
theorem dX10_parentAt_4 : decode cX10_parentAt 4 = .ok (.iload_n 1, 1) := by decide +kernel
theorem dX10_parentAt_5 : decode cX10_parentAt 5 = .ok (.invokestatic 69, 3) := by decide +kernel
theorem dX10_parentAt_8 : decode cX10_parentAt 8 = .ok (.ireturn, 1) := by decide +kernel
theorem dX10_rootAt_0 : decode cX10_rootAt 0 = .ok (.aload_n 0, 1) := by decide +kernel
theorem dX10_rootAt_1 : decode cX10_rootAt 1 = .ok (.getfield 15, 3) := by decide +kernel
theorem dX10_rootAt_4 : decode cX10_rootAt 4 = .ok (.iload_n 1, 1) := by decide +kernel
theorem dX10_rootAt_5 : decode cX10_rootAt 5 = .ok (.invokestatic 69, 3) := by decide +kernel
theorem dX10_rootAt_8 : decode cX10_rootAt 8 = .ok (.ireturn, 1) := by decide +kernel
theorem dX10_sizeAt_0 : decode cX10_sizeAt 0 = .ok (.aload_n 0, 1) := by decide +kernel
theorem dX10_sizeAt_1 : decode cX10_sizeAt 1 = .ok (.getfield 18, 3) := by decide +kernel
theorem dX10_sizeAt_4 : decode cX10_sizeAt 4 = .ok (.iload_n 1, 1) := by decide +kernel
theorem dX10_sizeAt_5 : decode cX10_sizeAt 5 = .ok (.invokestatic 69, 3) := by decide +kernel
theorem dX10_sizeAt_8 : decode cX10_sizeAt 8 = .ok (.ireturn, 1) := by decide +kernel
theorem dX10_createdForAt_0 : decode cX10_createdForAt 0 = .ok (.aload_n 0, 1) := by decide +kernel
theorem dX10_createdForAt_1 : decode cX10_createdForAt 1 = .ok (.getfield 21, 3) := by decide +kernel
theorem dX10_createdForAt_4 : decode cX10_createdForAt 4 = .ok (.iload_n 1, 1) := by decide +kernel
theorem dX10_createdForAt_5 : decode cX10_createdForAt 5 = .ok (.invokestatic 69, 3) := by decide +kernel
theorem dX10_createdForAt_8 : decode cX10_createdForAt 8 = .ok (.ireturn, 1) := by decide +kernel
theorem dX10_countLive_0 : decode cX10_countLive 0 = .ok (.iconst 0, 1) := by decide +kernel
theorem dX10_countLive_1 : decode cX10_countLive 1 = .ok (.istore_n 1, 1) := by decide +kernel
theorem dX10_countLive_2 : decode cX10_countLive 2 = .ok (.iconst 0, 1) := by decide +kernel
theorem dX10_countLive_3 : decode cX10_countLive 3 = .ok (.istore_n 2, 1) := by decide +kernel
theorem dX10_countLive_4 : decode cX10_countLive 4 = .ok (.iload_n 2, 1) := by decide +kernel
theorem dX10_countLive_5 : decode cX10_countLive 5 = .ok (.aload_n 0, 1) := by decide +kernel
theorem dX10_countLive_6 : decode cX10_countLive 6 = .ok (.getfield 37, 3) := by decide +kernel
theorem dX10_countLive_9 : decode cX10_countLive 9 = .ok (.if_icmp .ge 20, 3) := by decide +kernel
theorem dX10_countLive_12 : decode cX10_countLive 12 = .ok (.aload_n 0, 1) := by decide +kernel
theorem dX10_countLive_13 : decode cX10_countLive 13 = .ok (.iload_n 2, 1) := by decide +kernel
theorem dX10_countLive_14 : decode cX10_countLive 14 = .ok (.invokevirtual 73, 3) := by decide +kernel
theorem dX10_countLive_17 : decode cX10_countLive 17 = .ok (.ifCond .eq 6, 3) := by decide +kernel
theorem dX10_countLive_20 : decode cX10_countLive 20 = .ok (.iinc 1 1, 3) := by decide +kernel
theorem dX10_countLive_23 : decode cX10_countLive 23 = .ok (.iinc 2 1, 3) := by decide +kernel
theorem dX10_countLive_26 : decode cX10_countLive 26 = .ok (.goto (-22), 3) := by decide +kernel
theorem dX10_countLive_29 : decode cX10_countLive 29 = .ok (.iload_n 1, 1) := by decide +kernel
theorem dX10_countLive_30 : decode cX10_countLive 30 = .ok (.ireturn, 1) := by decide +kernel
theorem dX10_countAncestors_0 : decode cX10_countAncestors 0 = .ok (.iconst 0, 1) := by decide +kernel
theorem dX10_countAncestors_1 : decode cX10_countAncestors 1 = .ok (.istore_n 2, 1) := by decide +kernel
theorem dX10_countAncestors_2 : decode cX10_countAncestors 2 = .ok (.aload_n 0, 1) := by decide +kernel
theorem dX10_countAncestors_3 : decode cX10_countAncestors 3 = .ok (.iload_n 1, 1) := by decide +kernel
theorem dX10_countAncestors_4 : decode cX10_countAncestors 4 = .ok (.invokevirtual 76, 3) := by decide +kernel
theorem dX10_countAncestors_7 : decode cX10_countAncestors 7 = .ok (.istore_n 3, 1) := by decide +kernel
theorem dX10_countAncestors_8 : decode cX10_countAncestors 8 = .ok (.iload_n 3, 1) := by decide +kernel
theorem dX10_countAncestors_9 : decode cX10_countAncestors 9 = .ok (.iconst (-1), 1) := by decide +kernel
theorem dX10_countAncestors_10 : decode cX10_countAncestors 10 = .ok (.if_icmp .eq 21, 3) := by decide +kernel
theorem dX10_countAncestors_13 : decode cX10_countAncestors 13 = .ok (.iload_n 2, 1) := by decide +kernel
theorem dX10_countAncestors_14 : decode cX10_countAncestors 14 = .ok (.bipush 40, 2) := by decide +kernel
theorem dX10_countAncestors_16 : decode cX10_countAncestors 16 = .ok (.if_icmp .ge 15, 3) := by decide +kernel
theorem dX10_countAncestors_19 : decode cX10_countAncestors 19 = .ok (.iinc 2 1, 3) := by decide +kernel
theorem dX10_countAncestors_22 : decode cX10_countAncestors 22 = .ok (.aload_n 0, 1) := by decide +kernel
theorem dX10_countAncestors_23 : decode cX10_countAncestors 23 = .ok (.iload_n 3, 1) := by decide +kernel
theorem dX10_countAncestors_24 : decode cX10_countAncestors 24 = .ok (.invokevirtual 76, 3) := by decide +kernel
theorem dX10_countAncestors_27 : decode cX10_countAncestors 27 = .ok (.istore_n 3, 1) := by decide +kernel
theorem dX10_countAncestors_28 : decode cX10_countAncestors 28 = .ok (.goto (-20), 3) := by decide +kernel
theorem dX10_countAncestors_31 : decode cX10_countAncestors 31 = .ok (.iload_n 2, 1) := by decide +kernel
theorem dX10_countAncestors_32 : decode cX10_countAncestors 32 = .ok (.ireturn, 1) := by decide +kernel
theorem dX10_countChildren_0 : decode cX10_countChildren 0 = .ok (.iconst 0, 1) := by decide +kernel
theorem dX10_countChildren_1 : decode cX10_countChildren 1 = .ok (.istore_n 2, 1) := by decide +kernel
theorem dX10_countChildren_2 : decode cX10_countChildren 2 = .ok (.iconst 0, 1) := by decide +kernel
theorem dX10_countChildren_3 : decode cX10_countChildren 3 = .ok (.istore_n 3, 1) := by decide +kernel
theorem dX10_countChildren_4 : decode cX10_countChildren 4 = .ok (.iload_n 3, 1) := by decide +kernel
theorem dX10_countChildren_5 : decode cX10_countChildren 5 = .ok (.aload_n 0, 1) := by decide +kernel
theorem dX10_countChildren_6 : decode cX10_countChildren 6 = .ok (.getfield 37, 3) := by decide +kernel
theorem dX10_countChildren_9 : decode cX10_countChildren 9 = .ok (.if_icmp .ge 21, 3) := by decide +kernel
theorem dX10_countChildren_12 : decode cX10_countChildren 12 = .ok (.aload_n 0, 1) := by decide +kernel
theorem dX10_countChildren_13 : decode cX10_countChildren 13 = .ok (.iload_n 3, 1) := by decide +kernel
theorem dX10_countChildren_14 : decode cX10_countChildren 14 = .ok (.invokevirtual 76, 3) := by decide +kernel
theorem dX10_countChildren_17 : decode cX10_countChildren 17 = .ok (.iload_n 1, 1) := by decide +kernel
theorem dX10_countChildren_18 : decode cX10_countChildren 18 = .ok (.if_icmp .ne 6, 3) := by decide +kernel
theorem dX10_countChildren_21 : decode cX10_countChildren 21 = .ok (.iinc 2 1, 3) := by decide +kernel
theorem dX10_countChildren_24 : decode cX10_countChildren 24 = .ok (.iinc 3 1, 3) := by decide +kernel
theorem dX10_countChildren_27 : decode cX10_countChildren 27 = .ok (.goto (-23), 3) := by decide +kernel
theorem dX10_countChildren_30 : decode cX10_countChildren 30 = .ok (.iload_n 2, 1) := by decide +kernel
theorem dX10_countChildren_31 : decode cX10_countChildren 31 = .ok (.ireturn, 1) := by decide +kernel
theorem dX10_meetingPoint_0 : decode cX10_meetingPoint 0 = .ok (.iload_n 1, 1) := by decide +kernel
theorem dX10_meetingPoint_1 : decode cX10_meetingPoint 1 = .ok (.istore_n 3, 1) := by decide +kernel
theorem dX10_meetingPoint_2 : decode cX10_meetingPoint 2 = .ok (.iload_n 2, 1) := by decide +kernel
theorem dX10_meetingPoint_3 : decode cX10_meetingPoint 3 = .ok (.istore 4, 2) := by decide +kernel
theorem dX10_meetingPoint_5 : decode cX10_meetingPoint 5 = .ok (.iconst 0, 1) := by decide +kernel
theorem dX10_meetingPoint_6 : decode cX10_meetingPoint 6 = .ok (.istore 5, 2) := by decide +kernel
theorem dX10_meetingPoint_8 : decode cX10_meetingPoint 8 = .ok (.iload_n 3, 1) := by decide +kernel
theorem dX10_meetingPoint_9 : decode cX10_meetingPoint 9 = .ok (.iload 4, 2) := by decide +kernel
theorem dX10_meetingPoint_11 : decode cX10_meetingPoint 11 = .ok (.if_icmp .eq 39, 3) := by decide +kernel
theorem dX10_meetingPoint_14 : decode cX10_meetingPoint 14 = .ok (.iload 5, 2) := by decide +kernel
theorem dX10_meetingPoint_16 : decode cX10_meetingPoint 16 = .ok (.bipush 80, 2) := by decide +kernel
theorem dX10_meetingPoint_18 : decode cX10_meetingPoint 18 = .ok (.if_icmp .ge 32, 3) := by decide +kernel
theorem dX10_meetingPoint_21 : decode cX10_meetingPoint 21 = .ok (.iload_n 3, 1) := by decide +kernel
theorem dX10_meetingPoint_22 : decode cX10_meetingPoint 22 = .ok (.iload 4, 2) := by decide +kernel
theorem dX10_meetingPoint_24 : decode cX10_meetingPoint 24 = .ok (.if_icmp .le 12, 3) := by decide +kernel
theorem dX10_meetingPoint_27 : decode cX10_meetingPoint 27 = .ok (.aload_n 0, 1) := by decide +kernel
theorem dX10_meetingPoint_28 : decode cX10_meetingPoint 28 = .ok (.iload_n 3, 1) := by decide +kernel
theorem dX10_meetingPoint_29 : decode cX10_meetingPoint 29 = .ok (.invokevirtual 76, 3) := by decide +kernel
theorem dX10_meetingPoint_32 : decode cX10_meetingPoint 32 = .ok (.istore_n 3, 1) := by decide +kernel
theorem dX10_meetingPoint_33 : decode cX10_meetingPoint 33 = .ok (.goto 11, 3) := by decide +kernel
theorem dX10_meetingPoint_36 : decode cX10_meetingPoint 36 = .ok (.aload_n 0, 1) := by decide +kernel
theorem dX10_meetingPoint_37 : decode cX10_meetingPoint 37 = .ok (.iload 4, 2) := by decide +kernel
theorem dX10_meetingPoint_39 : decode cX10_meetingPoint 39 = .ok (.invokevirtual 76, 3) := by decide +kernel
theorem dX10_meetingPoint_42 : decode cX10_meetingPoint 42 = .ok (.istore 4, 2) := by decide +kernel
theorem dX10_meetingPoint_44 : decode cX10_meetingPoint 44 = .ok (.iinc 5 1, 3) := by decide +kernel
theorem dX10_meetingPoint_47 : decode cX10_meetingPoint 47 = .ok (.goto (-39), 3) := by decide +kernel
theorem dX10_meetingPoint_50 : decode cX10_meetingPoint 50 = .ok (.iload_n 3, 1) := by decide +kernel
theorem dX10_meetingPoint_51 : decode cX10_meetingPoint 51 = .ok (.ireturn, 1) := by decide +kernel
theorem dX10_countLiveRoots_0 : decode cX10_countLiveRoots 0 = .ok (.iconst 0, 1) := by decide +kernel
theorem dX10_countLiveRoots_1 : decode cX10_countLiveRoots 1 = .ok (.istore_n 2, 1) := by decide +kernel
theorem dX10_countLiveRoots_2 : decode cX10_countLiveRoots 2 = .ok (.iconst 0, 1) := by decide +kernel
theorem dX10_countLiveRoots_3 : decode cX10_countLiveRoots 3 = .ok (.istore_n 3, 1) := by decide +kernel
theorem dX10_countLiveRoots_4 : decode cX10_countLiveRoots 4 = .ok (.iload_n 3, 1) := by decide +kernel
theorem dX10_countLiveRoots_5 : decode cX10_countLiveRoots 5 = .ok (.aload_n 0, 1) := by decide +kernel
theorem dX10_countLiveRoots_6 : decode cX10_countLiveRoots 6 = .ok (.getfield 37, 3) := by decide +kernel
theorem dX10_countLiveRoots_9 : decode cX10_countLiveRoots 9 = .ok (.if_icmp .ge 29, 3) := by decide +kernel
theorem dX10_countLiveRoots_12 : decode cX10_countLiveRoots 12 = .ok (.aload_n 0, 1) := by decide +kernel
theorem dX10_countLiveRoots_13 : decode cX10_countLiveRoots 13 = .ok (.iload_n 3, 1) := by decide +kernel
theorem dX10_countLiveRoots_14 : decode cX10_countLiveRoots 14 = .ok (.invokevirtual 73, 3) := by decide +kernel
theorem dX10_countLiveRoots_17 : decode cX10_countLiveRoots 17 = .ok (.ifCond .eq 15, 3) := by decide +kernel
theorem dX10_countLiveRoots_20 : decode cX10_countLiveRoots 20 = .ok (.aload_n 0, 1) := by decide +kernel
theorem dX10_countLiveRoots_21 : decode cX10_countLiveRoots 21 = .ok (.iload_n 3, 1) := by decide +kernel
theorem dX10_countLiveRoots_22 : decode cX10_countLiveRoots 22 = .ok (.invokevirtual 80, 3) := by decide +kernel
theorem dX10_countLiveRoots_25 : decode cX10_countLiveRoots 25 = .ok (.iload_n 1, 1) := by decide +kernel
theorem dX10_countLiveRoots_26 : decode cX10_countLiveRoots 26 = .ok (.if_icmp .ne 6, 3) := by decide +kernel
theorem dX10_countLiveRoots_29 : decode cX10_countLiveRoots 29 = .ok (.iinc 2 1, 3) := by decide +kernel
theorem dX10_countLiveRoots_32 : decode cX10_countLiveRoots 32 = .ok (.iinc 3 1, 3) := by decide +kernel
theorem dX10_countLiveRoots_35 : decode cX10_countLiveRoots 35 = .ok (.goto (-31), 3) := by decide +kernel
theorem dX10_countLiveRoots_38 : decode cX10_countLiveRoots 38 = .ok (.iload_n 2, 1) := by decide +kernel
theorem dX10_countLiveRoots_39 : decode cX10_countLiveRoots 39 = .ok (.ireturn, 1) := by decide +kernel
theorem dX10_findLargest_0 : decode cX10_findLargest 0 = .ok (.iconst (-1), 1) := by decide +kernel
theorem dX10_findLargest_1 : decode cX10_findLargest 1 = .ok (.istore_n 1, 1) := by decide +kernel
theorem dX10_findLargest_2 : decode cX10_findLargest 2 = .ok (.iconst 0, 1) := by decide +kernel
theorem dX10_findLargest_3 : decode cX10_findLargest 3 = .ok (.istore_n 2, 1) := by decide +kernel
theorem dX10_findLargest_4 : decode cX10_findLargest 4 = .ok (.iload_n 2, 1) := by decide +kernel
theorem dX10_findLargest_5 : decode cX10_findLargest 5 = .ok (.aload_n 0, 1) := by decide +kernel
theorem dX10_findLargest_6 : decode cX10_findLargest 6 = .ok (.getfield 37, 3) := by decide +kernel
theorem dX10_findLargest_9 : decode cX10_findLargest 9 = .ok (.if_icmp .ge 37, 3) := by decide +kernel
theorem dX10_findLargest_12 : decode cX10_findLargest 12 = .ok (.aload_n 0, 1) := by decide +kernel
theorem dX10_findLargest_13 : decode cX10_findLargest 13 = .ok (.iload_n 2, 1) := by decide +kernel
theorem dX10_findLargest_14 : decode cX10_findLargest 14 = .ok (.invokevirtual 73, 3) := by decide +kernel
theorem dX10_findLargest_17 : decode cX10_findLargest 17 = .ok (.ifCond .eq 23, 3) := by decide +kernel
theorem dX10_findLargest_20 : decode cX10_findLargest 20 = .ok (.iload_n 1, 1) := by decide +kernel
theorem dX10_findLargest_21 : decode cX10_findLargest 21 = .ok (.iconst (-1), 1) := by decide +kernel
theorem dX10_findLargest_22 : decode cX10_findLargest 22 = .ok (.if_icmp .eq 16, 3) := by decide +kernel
theorem dX10_findLargest_25 : decode cX10_findLargest 25 = .ok (.aload_n 0, 1) := by decide +kernel
theorem dX10_findLargest_26 : decode cX10_findLargest 26 = .ok (.iload_n 2, 1) := by decide +kernel
theorem dX10_findLargest_27 : decode cX10_findLargest 27 = .ok (.invokevirtual 83, 3) := by decide +kernel
theorem dX10_findLargest_30 : decode cX10_findLargest 30 = .ok (.aload_n 0, 1) := by decide +kernel
theorem dX10_findLargest_31 : decode cX10_findLargest 31 = .ok (.iload_n 1, 1) := by decide +kernel
theorem dX10_findLargest_32 : decode cX10_findLargest 32 = .ok (.invokevirtual 83, 3) := by decide +kernel
theorem dX10_findLargest_35 : decode cX10_findLargest 35 = .ok (.if_icmp .le 5, 3) := by decide +kernel
theorem dX10_findLargest_38 : decode cX10_findLargest 38 = .ok (.iload_n 2, 1) := by decide +kernel
theorem dX10_findLargest_39 : decode cX10_findLargest 39 = .ok (.istore_n 1, 1) := by decide +kernel
theorem dX10_findLargest_40 : decode cX10_findLargest 40 = .ok (.iinc 2 1, 3) := by decide +kernel
theorem dX10_findLargest_43 : decode cX10_findLargest 43 = .ok (.goto (-39), 3) := by decide +kernel
theorem dX10_findLargest_46 : decode cX10_findLargest 46 = .ok (.iload_n 1, 1) := by decide +kernel
theorem dX10_findLargest_47 : decode cX10_findLargest 47 = .ok (.ireturn, 1) := by decide +kernel
theorem dX10_recordedElement_0 : decode cX10_recordedElement 0 = .ok (.iload_n 1, 1) := by decide +kernel
theorem dX10_recordedElement_1 : decode cX10_recordedElement 1 = .ok (.istore_n 3, 1) := by decide +kernel
theorem dX10_recordedElement_2 : decode cX10_recordedElement 2 = .ok (.iconst 0, 1) := by decide +kernel
theorem dX10_recordedElement_3 : decode cX10_recordedElement 3 = .ok (.istore 4, 2) := by decide +kernel
theorem dX10_recordedElement_5 : decode cX10_recordedElement 5 = .ok (.iload_n 3, 1) := by decide +kernel
theorem dX10_recordedElement_6 : decode cX10_recordedElement 6 = .ok (.iconst (-1), 1) := by decide +kernel
theorem dX10_recordedElement_7 : decode cX10_recordedElement 7 = .ok (.if_icmp .eq 43, 3) := by decide +kernel
theorem dX10_recordedElement_10 : decode cX10_recordedElement 10 = .ok (.iload 4, 2) := by decide +kernel
theorem dX10_recordedElement_12 : decode cX10_recordedElement 12 = .ok (.bipush 40, 2) := by decide +kernel
theorem dX10_recordedElement_14 : decode cX10_recordedElement 14 = .ok (.if_icmp .ge 36, 3) := by decide +kernel
theorem dX10_recordedElement_17 : decode cX10_recordedElement 17 = .ok (.aload_n 0, 1) := by decide +kernel
theorem dX10_recordedElement_18 : decode cX10_recordedElement 18 = .ok (.getfield 24, 3) := by decide +kernel
theorem dX10_recordedElement_21 : decode cX10_recordedElement 21 = .ok (.iload_n 3, 1) := by decide +kernel
theorem dX10_recordedElement_22 : decode cX10_recordedElement 22 = .ok (.invokestatic 69, 3) := by decide +kernel
theorem dX10_recordedElement_25 : decode cX10_recordedElement 25 = .ok (.iload_n 2, 1) := by decide +kernel
theorem dX10_recordedElement_26 : decode cX10_recordedElement 26 = .ok (.if_icmp .ne 12, 3) := by decide +kernel
theorem dX10_recordedElement_29 : decode cX10_recordedElement 29 = .ok (.aload_n 0, 1) := by decide +kernel
theorem dX10_recordedElement_30 : decode cX10_recordedElement 30 = .ok (.getfield 27, 3) := by decide +kernel
theorem dX10_recordedElement_33 : decode cX10_recordedElement 33 = .ok (.iload_n 3, 1) := by decide +kernel
theorem dX10_recordedElement_34 : decode cX10_recordedElement 34 = .ok (.invokestatic 69, 3) := by decide +kernel
theorem dX10_recordedElement_37 : decode cX10_recordedElement 37 = .ok (.ireturn, 1) := by decide +kernel
theorem dX10_recordedElement_38 : decode cX10_recordedElement 38 = .ok (.aload_n 0, 1) := by decide +kernel
theorem dX10_recordedElement_39 : decode cX10_recordedElement 39 = .ok (.iload_n 3, 1) := by decide +kernel
theorem dX10_recordedElement_40 : decode cX10_recordedElement 40 = .ok (.invokevirtual 76, 3) := by decide +kernel
theorem dX10_recordedElement_43 : decode cX10_recordedElement 43 = .ok (.istore_n 3, 1) := by decide +kernel
theorem dX10_recordedElement_44 : decode cX10_recordedElement 44 = .ok (.iinc 4 1, 3) := by decide +kernel
theorem dX10_recordedElement_47 : decode cX10_recordedElement 47 = .ok (.goto (-42), 3) := by decide +kernel
theorem dX10_recordedElement_50 : decode cX10_recordedElement 50 = .ok (.aload_n 0, 1) := by decide +kernel
theorem dX10_recordedElement_51 : decode cX10_recordedElement 51 = .ok (.getfield 30, 3) := by decide +kernel
theorem dX10_recordedElement_54 : decode cX10_recordedElement 54 = .ok (.iload_n 2, 1) := by decide +kernel
theorem dX10_recordedElement_55 : decode cX10_recordedElement 55 = .ok (.invokestatic 69, 3) := by decide +kernel
theorem dX10_recordedElement_58 : decode cX10_recordedElement 58 = .ok (.ireturn, 1) := by decide +kernel
theorem dX10_sumOfCreated_0 : decode cX10_sumOfCreated 0 = .ok (.iconst 0, 1) := by decide +kernel
theorem dX10_sumOfCreated_1 : decode cX10_sumOfCreated 1 = .ok (.istore_n 1, 1) := by decide +kernel
theorem dX10_sumOfCreated_2 : decode cX10_sumOfCreated 2 = .ok (.iconst 0, 1) := by decide +kernel
theorem dX10_sumOfCreated_3 : decode cX10_sumOfCreated 3 = .ok (.istore_n 2, 1) := by decide +kernel
theorem dX10_sumOfCreated_4 : decode cX10_sumOfCreated 4 = .ok (.iload_n 2, 1) := by decide +kernel
theorem dX10_sumOfCreated_5 : decode cX10_sumOfCreated 5 = .ok (.aload_n 0, 1) := by decide +kernel
theorem dX10_sumOfCreated_6 : decode cX10_sumOfCreated 6 = .ok (.getfield 37, 3) := by decide +kernel
theorem dX10_sumOfCreated_9 : decode cX10_sumOfCreated 9 = .ok (.if_icmp .ge 17, 3) := by decide +kernel
theorem dX10_sumOfCreated_12 : decode cX10_sumOfCreated 12 = .ok (.iload_n 1, 1) := by decide +kernel
theorem dX10_sumOfCreated_13 : decode cX10_sumOfCreated 13 = .ok (.aload_n 0, 1) := by decide +kernel
theorem dX10_sumOfCreated_14 : decode cX10_sumOfCreated 14 = .ok (.iload_n 2, 1) := by decide +kernel
theorem dX10_sumOfCreated_15 : decode cX10_sumOfCreated 15 = .ok (.invokevirtual 86, 3) := by decide +kernel
theorem dX10_sumOfCreated_18 : decode cX10_sumOfCreated 18 = .ok (.iadd, 1) := by decide +kernel
theorem dX10_sumOfCreated_19 : decode cX10_sumOfCreated 19 = .ok (.istore_n 1, 1) := by decide +kernel
theorem dX10_sumOfCreated_20 : decode cX10_sumOfCreated 20 = .ok (.iinc 2 1, 3) := by decide +kernel
theorem dX10_sumOfCreated_23 : decode cX10_sumOfCreated 23 = .ok (.goto (-19), 3) := by decide +kernel
theorem dX10_sumOfCreated_26 : decode cX10_sumOfCreated 26 = .ok (.iload_n 1, 1) := by decide +kernel
theorem dX10_sumOfCreated_27 : decode cX10_sumOfCreated 27 = .ok (.ireturn, 1) := by decide +kernel
theorem dX10_isFull_0 : decode cX10_isFull 0 = .ok (.aload_n 0, 1) := by decide +kernel
theorem dX10_isFull_1 : decode cX10_isFull 1 = .ok (.getfield 37, 3) := by decide +kernel
theorem dX10_isFull_4 : decode cX10_isFull 4 = .ok (.bipush 40, 2) := by decide +kernel
theorem dX10_isFull_6 : decode cX10_isFull 6 = .ok (.if_icmp .lt 7, 3) := by decide +kernel
theorem dX10_isFull_9 : decode cX10_isFull 9 = .ok (.iconst 1, 1) := by decide +kernel
theorem dX10_isFull_10 : decode cX10_isFull 10 = .ok (.goto 4, 3) := by decide +kernel
theorem dX10_isFull_13 : decode cX10_isFull 13 = .ok (.iconst 0, 1) := by decide +kernel
theorem dX10_isFull_14 : decode cX10_isFull 14 = .ok (.ireturn, 1) := by decide +kernel
theorem dX10_faultOfReading_0 : decode cX10_faultOfReading 0 = .ok (.aload_n 0, 1) := by decide +kernel
theorem dX10_faultOfReading_1 : decode cX10_faultOfReading 1 = .ok (.iload_n 1, 1) := by decide +kernel
theorem dX10_faultOfReading_2 : decode cX10_faultOfReading 2 = .ok (.invokevirtual 61, 3) := by decide +kernel
theorem dX10_faultOfReading_5 : decode cX10_faultOfReading 5 = .ok (.ifCond .ne 5, 3) := by decide +kernel
theorem dX10_faultOfReading_8 : decode cX10_faultOfReading 8 = .ok (.iconst 1, 1) := by decide +kernel
theorem dX10_faultOfReading_9 : decode cX10_faultOfReading 9 = .ok (.ireturn, 1) := by decide +kernel
theorem dX10_faultOfReading_10 : decode cX10_faultOfReading 10 = .ok (.aload_n 0, 1) := by decide +kernel
theorem dX10_faultOfReading_11 : decode cX10_faultOfReading 11 = .ok (.iload_n 1, 1) := by decide +kernel
theorem dX10_faultOfReading_12 : decode cX10_faultOfReading 12 = .ok (.invokevirtual 73, 3) := by decide +kernel
theorem dX10_faultOfReading_15 : decode cX10_faultOfReading 15 = .ok (.ifCond .eq 7, 3) := by decide +kernel
theorem dX10_faultOfReading_18 : decode cX10_faultOfReading 18 = .ok (.iconst 0, 1) := by decide +kernel
theorem dX10_faultOfReading_19 : decode cX10_faultOfReading 19 = .ok (.goto 4, 3) := by decide +kernel
theorem dX10_faultOfReading_22 : decode cX10_faultOfReading 22 = .ok (.iconst 3, 1) := by decide +kernel
theorem dX10_faultOfReading_23 : decode cX10_faultOfReading 23 = .ok (.ireturn, 1) := by decide +kernel
theorem dX10_faultOfReadingBoth_0 : decode cX10_faultOfReadingBoth 0 = .ok (.aload_n 0, 1) := by decide +kernel
theorem dX10_faultOfReadingBoth_1 : decode cX10_faultOfReadingBoth 1 = .ok (.iload_n 1, 1) := by decide +kernel
theorem dX10_faultOfReadingBoth_2 : decode cX10_faultOfReadingBoth 2 = .ok (.invokevirtual 61, 3) := by decide +kernel
theorem dX10_faultOfReadingBoth_5 : decode cX10_faultOfReadingBoth 5 = .ok (.ifCond .eq 11, 3) := by decide +kernel
theorem dX10_faultOfReadingBoth_8 : decode cX10_faultOfReadingBoth 8 = .ok (.aload_n 0, 1) := by decide +kernel
theorem dX10_faultOfReadingBoth_9 : decode cX10_faultOfReadingBoth 9 = .ok (.iload_n 2, 1) := by decide +kernel
theorem dX10_faultOfReadingBoth_10 : decode cX10_faultOfReadingBoth 10 = .ok (.invokevirtual 61, 3) := by decide +kernel
theorem dX10_faultOfReadingBoth_13 : decode cX10_faultOfReadingBoth 13 = .ok (.ifCond .ne 5, 3) := by decide +kernel
theorem dX10_faultOfReadingBoth_16 : decode cX10_faultOfReadingBoth 16 = .ok (.iconst 1, 1) := by decide +kernel
theorem dX10_faultOfReadingBoth_17 : decode cX10_faultOfReadingBoth 17 = .ok (.ireturn, 1) := by decide +kernel
theorem dX10_faultOfReadingBoth_18 : decode cX10_faultOfReadingBoth 18 = .ok (.aload_n 0, 1) := by decide +kernel
theorem dX10_faultOfReadingBoth_19 : decode cX10_faultOfReadingBoth 19 = .ok (.iload_n 1, 1) := by decide +kernel
theorem dX10_faultOfReadingBoth_20 : decode cX10_faultOfReadingBoth 20 = .ok (.invokevirtual 73, 3) := by decide +kernel
theorem dX10_faultOfReadingBoth_23 : decode cX10_faultOfReadingBoth 23 = .ok (.ifCond .eq 15, 3) := by decide +kernel
theorem dX10_faultOfReadingBoth_26 : decode cX10_faultOfReadingBoth 26 = .ok (.aload_n 0, 1) := by decide +kernel
theorem dX10_faultOfReadingBoth_27 : decode cX10_faultOfReadingBoth 27 = .ok (.iload_n 2, 1) := by decide +kernel
theorem dX10_faultOfReadingBoth_28 : decode cX10_faultOfReadingBoth 28 = .ok (.invokevirtual 73, 3) := by decide +kernel
theorem dX10_faultOfReadingBoth_31 : decode cX10_faultOfReadingBoth 31 = .ok (.ifCond .eq 7, 3) := by decide +kernel
theorem dX10_faultOfReadingBoth_34 : decode cX10_faultOfReadingBoth 34 = .ok (.iconst 0, 1) := by decide +kernel
theorem dX10_faultOfReadingBoth_35 : decode cX10_faultOfReadingBoth 35 = .ok (.goto 4, 3) := by decide +kernel
theorem dX10_faultOfReadingBoth_38 : decode cX10_faultOfReadingBoth 38 = .ok (.iconst 3, 1) := by decide +kernel
theorem dX10_faultOfReadingBoth_39 : decode cX10_faultOfReadingBoth 39 = .ok (.ireturn, 1) := by decide +kernel
theorem dX10_faultOfElement_0 : decode cX10_faultOfElement 0 = .ok (.aload_n 0, 1) := by decide +kernel
theorem dX10_faultOfElement_1 : decode cX10_faultOfElement 1 = .ok (.iload_n 1, 1) := by decide +kernel
theorem dX10_faultOfElement_2 : decode cX10_faultOfElement 2 = .ok (.invokevirtual 89, 3) := by decide +kernel
theorem dX10_faultOfElement_5 : decode cX10_faultOfElement 5 = .ok (.istore_n 3, 1) := by decide +kernel
theorem dX10_faultOfElement_6 : decode cX10_faultOfElement 6 = .ok (.iload_n 3, 1) := by decide +kernel
theorem dX10_faultOfElement_7 : decode cX10_faultOfElement 7 = .ok (.ifCond .ne 18, 3) := by decide +kernel
theorem dX10_faultOfElement_10 : decode cX10_faultOfElement 10 = .ok (.iload_n 2, 1) := by decide +kernel
theorem dX10_faultOfElement_11 : decode cX10_faultOfElement 11 = .ok (.ifCond .lt 12, 3) := by decide +kernel
theorem dX10_faultOfElement_14 : decode cX10_faultOfElement 14 = .ok (.iload_n 2, 1) := by decide +kernel
theorem dX10_faultOfElement_15 : decode cX10_faultOfElement 15 = .ok (.aload_n 0, 1) := by decide +kernel
theorem dX10_faultOfElement_16 : decode cX10_faultOfElement 16 = .ok (.iload_n 1, 1) := by decide +kernel
theorem dX10_faultOfElement_17 : decode cX10_faultOfElement 17 = .ok (.invokevirtual 83, 3) := by decide +kernel
theorem dX10_faultOfElement_20 : decode cX10_faultOfElement 20 = .ok (.if_icmp .lt 5, 3) := by decide +kernel
theorem dX10_faultOfElement_23 : decode cX10_faultOfElement 23 = .ok (.iconst 1, 1) := by decide +kernel
theorem dX10_faultOfElement_24 : decode cX10_faultOfElement 24 = .ok (.ireturn, 1) := by decide +kernel
theorem dX10_faultOfElement_25 : decode cX10_faultOfElement 25 = .ok (.iload_n 3, 1) := by decide +kernel
theorem dX10_faultOfElement_26 : decode cX10_faultOfElement 26 = .ok (.ireturn, 1) := by decide +kernel
theorem dX10_faultOfReplacement_0 : decode cX10_faultOfReplacement 0 = .ok (.aload_n 0, 1) := by decide +kernel
theorem dX10_faultOfReplacement_1 : decode cX10_faultOfReplacement 1 = .ok (.iload_n 1, 1) := by decide +kernel
theorem dX10_faultOfReplacement_2 : decode cX10_faultOfReplacement 2 = .ok (.iload_n 2, 1) := by decide +kernel
theorem dX10_faultOfReplacement_3 : decode cX10_faultOfReplacement 3 = .ok (.invokevirtual 92, 3) := by decide +kernel
theorem dX10_faultOfReplacement_6 : decode cX10_faultOfReplacement 6 = .ok (.istore 4, 2) := by decide +kernel
theorem dX10_faultOfReplacement_8 : decode cX10_faultOfReplacement 8 = .ok (.iload 4, 2) := by decide +kernel
theorem dX10_faultOfReplacement_10 : decode cX10_faultOfReplacement 10 = .ok (.iconst 1, 1) := by decide +kernel
theorem dX10_faultOfReplacement_11 : decode cX10_faultOfReplacement 11 = .ok (.if_icmp .eq 12, 3) := by decide +kernel
theorem dX10_faultOfReplacement_14 : decode cX10_faultOfReplacement 14 = .ok (.iload_n 3, 1) := by decide +kernel
theorem dX10_faultOfReplacement_15 : decode cX10_faultOfReplacement 15 = .ok (.invokestatic 96, 3) := by decide +kernel
theorem dX10_faultOfReplacement_18 : decode cX10_faultOfReplacement 18 = .ok (.ifCond .ne 5, 3) := by decide +kernel
theorem dX10_faultOfReplacement_21 : decode cX10_faultOfReplacement 21 = .ok (.iconst 2, 1) := by decide +kernel
theorem dX10_faultOfReplacement_22 : decode cX10_faultOfReplacement 22 = .ok (.ireturn, 1) := by decide +kernel
theorem dX10_faultOfReplacement_23 : decode cX10_faultOfReplacement 23 = .ok (.iload 4, 2) := by decide +kernel
theorem dX10_faultOfReplacement_25 : decode cX10_faultOfReplacement 25 = .ok (.ireturn, 1) := by decide +kernel
theorem dX10_faultOfSet_0 : decode cX10_faultOfSet 0 = .ok (.aload_n 0, 1) := by decide +kernel
theorem dX10_faultOfSet_1 : decode cX10_faultOfSet 1 = .ok (.iload_n 1, 1) := by decide +kernel
theorem dX10_faultOfSet_2 : decode cX10_faultOfSet 2 = .ok (.iload_n 2, 1) := by decide +kernel
theorem dX10_faultOfSet_3 : decode cX10_faultOfSet 3 = .ok (.iload_n 3, 1) := by decide +kernel
theorem dX10_faultOfSet_4 : decode cX10_faultOfSet 4 = .ok (.invokevirtual 99, 3) := by decide +kernel
theorem dX10_faultOfSet_7 : decode cX10_faultOfSet 7 = .ok (.istore 4, 2) := by decide +kernel
theorem dX10_faultOfSet_9 : decode cX10_faultOfSet 9 = .ok (.iload 4, 2) := by decide +kernel
theorem dX10_faultOfSet_11 : decode cX10_faultOfSet 11 = .ok (.ifCond .ne 14, 3) := by decide +kernel
theorem dX10_faultOfSet_14 : decode cX10_faultOfSet 14 = .ok (.aload_n 0, 1) := by decide +kernel
theorem dX10_faultOfSet_15 : decode cX10_faultOfSet 15 = .ok (.invokevirtual 103, 3) := by decide +kernel
theorem dX10_faultOfSet_18 : decode cX10_faultOfSet 18 = .ok (.ifCond .eq 7, 3) := by decide +kernel
theorem dX10_faultOfSet_21 : decode cX10_faultOfSet 21 = .ok (.iconst 3, 1) := by decide +kernel
theorem dX10_faultOfSet_22 : decode cX10_faultOfSet 22 = .ok (.goto 5, 3) := by decide +kernel
theorem dX10_faultOfSet_25 : decode cX10_faultOfSet 25 = .ok (.iload 4, 2) := by decide +kernel
theorem dX10_faultOfSet_27 : decode cX10_faultOfSet 27 = .ok (.ireturn, 1) := by decide +kernel
theorem dX10_faultOfAppend_0 : decode cX10_faultOfAppend 0 = .ok (.aload_n 0, 1) := by decide +kernel
theorem dX10_faultOfAppend_1 : decode cX10_faultOfAppend 1 = .ok (.iload_n 1, 1) := by decide +kernel
theorem dX10_faultOfAppend_2 : decode cX10_faultOfAppend 2 = .ok (.invokevirtual 61, 3) := by decide +kernel
theorem dX10_faultOfAppend_5 : decode cX10_faultOfAppend 5 = .ok (.ifCond .ne 5, 3) := by decide +kernel
theorem dX10_faultOfAppend_8 : decode cX10_faultOfAppend 8 = .ok (.iconst 1, 1) := by decide +kernel
theorem dX10_faultOfAppend_9 : decode cX10_faultOfAppend 9 = .ok (.ireturn, 1) := by decide +kernel
theorem dX10_faultOfAppend_10 : decode cX10_faultOfAppend 10 = .ok (.iload_n 2, 1) := by decide +kernel
theorem dX10_faultOfAppend_11 : decode cX10_faultOfAppend 11 = .ok (.invokestatic 96, 3) := by decide +kernel
theorem dX10_faultOfAppend_14 : decode cX10_faultOfAppend 14 = .ok (.ifCond .ne 5, 3) := by decide +kernel
theorem dX10_faultOfAppend_17 : decode cX10_faultOfAppend 17 = .ok (.iconst 2, 1) := by decide +kernel
theorem dX10_faultOfAppend_18 : decode cX10_faultOfAppend 18 = .ok (.ireturn, 1) := by decide +kernel
theorem dX10_faultOfAppend_19 : decode cX10_faultOfAppend 19 = .ok (.aload_n 0, 1) := by decide +kernel
theorem dX10_faultOfAppend_20 : decode cX10_faultOfAppend 20 = .ok (.iload_n 1, 1) := by decide +kernel
theorem dX10_faultOfAppend_21 : decode cX10_faultOfAppend 21 = .ok (.invokevirtual 73, 3) := by decide +kernel
theorem dX10_faultOfAppend_24 : decode cX10_faultOfAppend 24 = .ok (.ifCond .eq 20, 3) := by decide +kernel
theorem dX10_faultOfAppend_27 : decode cX10_faultOfAppend 27 = .ok (.aload_n 0, 1) := by decide +kernel
theorem dX10_faultOfAppend_28 : decode cX10_faultOfAppend 28 = .ok (.iload_n 1, 1) := by decide +kernel
theorem dX10_faultOfAppend_29 : decode cX10_faultOfAppend 29 = .ok (.invokevirtual 83, 3) := by decide +kernel
theorem dX10_faultOfAppend_32 : decode cX10_faultOfAppend 32 = .ok (.bipush 64, 2) := by decide +kernel
theorem dX10_faultOfAppend_34 : decode cX10_faultOfAppend 34 = .ok (.if_icmp .ge 10, 3) := by decide +kernel
theorem dX10_faultOfAppend_37 : decode cX10_faultOfAppend 37 = .ok (.aload_n 0, 1) := by decide +kernel
theorem dX10_faultOfAppend_38 : decode cX10_faultOfAppend 38 = .ok (.invokevirtual 103, 3) := by decide +kernel
theorem dX10_faultOfAppend_41 : decode cX10_faultOfAppend 41 = .ok (.ifCond .eq 7, 3) := by decide +kernel
theorem dX10_faultOfAppend_44 : decode cX10_faultOfAppend 44 = .ok (.iconst 3, 1) := by decide +kernel
theorem dX10_faultOfAppend_45 : decode cX10_faultOfAppend 45 = .ok (.goto 4, 3) := by decide +kernel
theorem dX10_faultOfAppend_48 : decode cX10_faultOfAppend 48 = .ok (.iconst 0, 1) := by decide +kernel
theorem dX10_faultOfAppend_49 : decode cX10_faultOfAppend 49 = .ok (.ireturn, 1) := by decide +kernel
theorem dX10_faultOfTruncate_0 : decode cX10_faultOfTruncate 0 = .ok (.aload_n 0, 1) := by decide +kernel
theorem dX10_faultOfTruncate_1 : decode cX10_faultOfTruncate 1 = .ok (.iload_n 1, 1) := by decide +kernel
theorem dX10_faultOfTruncate_2 : decode cX10_faultOfTruncate 2 = .ok (.invokevirtual 61, 3) := by decide +kernel
theorem dX10_faultOfTruncate_5 : decode cX10_faultOfTruncate 5 = .ok (.ifCond .ne 5, 3) := by decide +kernel
theorem dX10_faultOfTruncate_8 : decode cX10_faultOfTruncate 8 = .ok (.iconst 1, 1) := by decide +kernel
theorem dX10_faultOfTruncate_9 : decode cX10_faultOfTruncate 9 = .ok (.ireturn, 1) := by decide +kernel
theorem dX10_faultOfTruncate_10 : decode cX10_faultOfTruncate 10 = .ok (.iload_n 2, 1) := by decide +kernel
theorem dX10_faultOfTruncate_11 : decode cX10_faultOfTruncate 11 = .ok (.ifCond .lt 20, 3) := by decide +kernel
theorem dX10_faultOfTruncate_14 : decode cX10_faultOfTruncate 14 = .ok (.aload_n 0, 1) := by decide +kernel
theorem dX10_faultOfTruncate_15 : decode cX10_faultOfTruncate 15 = .ok (.iload_n 1, 1) := by decide +kernel
theorem dX10_faultOfTruncate_16 : decode cX10_faultOfTruncate 16 = .ok (.invokevirtual 73, 3) := by decide +kernel
theorem dX10_faultOfTruncate_19 : decode cX10_faultOfTruncate 19 = .ok (.ifCond .eq 14, 3) := by decide +kernel
theorem dX10_faultOfTruncate_22 : decode cX10_faultOfTruncate 22 = .ok (.iload_n 2, 1) := by decide +kernel
theorem dX10_faultOfTruncate_23 : decode cX10_faultOfTruncate 23 = .ok (.aload_n 0, 1) := by decide +kernel
theorem dX10_faultOfTruncate_24 : decode cX10_faultOfTruncate 24 = .ok (.iload_n 1, 1) := by decide +kernel
theorem dX10_faultOfTruncate_25 : decode cX10_faultOfTruncate 25 = .ok (.invokevirtual 83, 3) := by decide +kernel
theorem dX10_faultOfTruncate_28 : decode cX10_faultOfTruncate 28 = .ok (.if_icmp .le 5, 3) := by decide +kernel
theorem dX10_faultOfTruncate_31 : decode cX10_faultOfTruncate 31 = .ok (.iconst 2, 1) := by decide +kernel
theorem dX10_faultOfTruncate_32 : decode cX10_faultOfTruncate 32 = .ok (.ireturn, 1) := by decide +kernel
theorem dX10_faultOfTruncate_33 : decode cX10_faultOfTruncate 33 = .ok (.aload_n 0, 1) := by decide +kernel
theorem dX10_faultOfTruncate_34 : decode cX10_faultOfTruncate 34 = .ok (.iload_n 1, 1) := by decide +kernel
theorem dX10_faultOfTruncate_35 : decode cX10_faultOfTruncate 35 = .ok (.invokevirtual 73, 3) := by decide +kernel
theorem dX10_faultOfTruncate_38 : decode cX10_faultOfTruncate 38 = .ok (.ifCond .eq 10, 3) := by decide +kernel
theorem dX10_faultOfTruncate_41 : decode cX10_faultOfTruncate 41 = .ok (.aload_n 0, 1) := by decide +kernel
theorem dX10_faultOfTruncate_42 : decode cX10_faultOfTruncate 42 = .ok (.invokevirtual 103, 3) := by decide +kernel
theorem dX10_faultOfTruncate_45 : decode cX10_faultOfTruncate 45 = .ok (.ifCond .eq 7, 3) := by decide +kernel
theorem dX10_faultOfTruncate_48 : decode cX10_faultOfTruncate 48 = .ok (.iconst 3, 1) := by decide +kernel
theorem dX10_faultOfTruncate_49 : decode cX10_faultOfTruncate 49 = .ok (.goto 4, 3) := by decide +kernel
theorem dX10_faultOfTruncate_52 : decode cX10_faultOfTruncate 52 = .ok (.iconst 0, 1) := by decide +kernel
theorem dX10_faultOfTruncate_53 : decode cX10_faultOfTruncate 53 = .ok (.ireturn, 1) := by decide +kernel
theorem dX11_init_0 : decode cX11_init 0 = .ok (.aload_n 0, 1) := by decide +kernel
theorem dX11_init_1 : decode cX11_init 1 = .ok (.invokespecial 1, 3) := by decide +kernel
theorem dX11_init_4 : decode cX11_init 4 = .ok (.aload_n 0, 1) := by decide +kernel
theorem dX11_init_5 : decode cX11_init 5 = .ok (.new 7, 3) := by decide +kernel
theorem dX11_init_8 : decode cX11_init 8 = .ok (.dup, 1) := by decide +kernel
theorem dX11_init_9 : decode cX11_init 9 = .ok (.invokespecial 9, 3) := by decide +kernel
theorem dX11_init_12 : decode cX11_init 12 = .ok (.putfield 10, 3) := by decide +kernel
theorem dX11_init_15 : decode cX11_init 15 = .ok (.aload_n 0, 1) := by decide +kernel
theorem dX11_init_16 : decode cX11_init 16 = .ok (.new 7, 3) := by decide +kernel
theorem dX11_init_19 : decode cX11_init 19 = .ok (.dup, 1) := by decide +kernel
theorem dX11_init_20 : decode cX11_init 20 = .ok (.invokespecial 9, 3) := by decide +kernel
theorem dX11_init_23 : decode cX11_init 23 = .ok (.putfield 16, 3) := by decide +kernel
theorem dX11_init_26 : decode cX11_init 26 = .ok (.aload_n 0, 1) := by decide +kernel
theorem dX11_init_27 : decode cX11_init 27 = .ok (.new 19, 3) := by decide +kernel
theorem dX11_init_30 : decode cX11_init 30 = .ok (.dup, 1) := by decide +kernel
theorem dX11_init_31 : decode cX11_init 31 = .ok (.aload_n 0, 1) := by decide +kernel
theorem dX11_init_32 : decode cX11_init 32 = .ok (.getfield 10, 3) := by decide +kernel
theorem dX11_init_35 : decode cX11_init 35 = .ok (.invokespecial 21, 3) := by decide +kernel
theorem dX11_init_38 : decode cX11_init 38 = .ok (.putfield 24, 3) := by decide +kernel
theorem dX11_init_41 : decode cX11_init 41 = .ok (.aload_n 0, 1) := by decide +kernel
theorem dX11_init_42 : decode cX11_init 42 = .ok (.new 28, 3) := by decide +kernel
theorem dX11_init_45 : decode cX11_init 45 = .ok (.dup, 1) := by decide +kernel
theorem dX11_init_46 : decode cX11_init 46 = .ok (.aload_n 0, 1) := by decide +kernel
theorem dX11_init_47 : decode cX11_init 47 = .ok (.getfield 10, 3) := by decide +kernel
theorem dX11_init_50 : decode cX11_init 50 = .ok (.aload_n 0, 1) := by decide +kernel
theorem dX11_init_51 : decode cX11_init 51 = .ok (.getfield 24, 3) := by decide +kernel
theorem dX11_init_54 : decode cX11_init 54 = .ok (.invokespecial 30, 3) := by decide +kernel
theorem dX11_init_57 : decode cX11_init 57 = .ok (.putfield 33, 3) := by decide +kernel
theorem dX11_init_60 : decode cX11_init 60 = .ok (.aload_n 0, 1) := by decide +kernel
theorem dX11_init_61 : decode cX11_init 61 = .ok (.new 37, 3) := by decide +kernel
theorem dX11_init_64 : decode cX11_init 64 = .ok (.dup, 1) := by decide +kernel
theorem dX11_init_65 : decode cX11_init 65 = .ok (.invokespecial 39, 3) := by decide +kernel
theorem dX11_init_68 : decode cX11_init 68 = .ok (.putfield 40, 3) := by decide +kernel
theorem dX11_init_71 : decode cX11_init 71 = .ok (.aload_n 0, 1) := by decide +kernel
theorem dX11_init_72 : decode cX11_init 72 = .ok (.new 44, 3) := by decide +kernel
theorem dX11_init_75 : decode cX11_init 75 = .ok (.dup, 1) := by decide +kernel
theorem dX11_init_76 : decode cX11_init 76 = .ok (.invokespecial 46, 3) := by decide +kernel
theorem dX11_init_79 : decode cX11_init 79 = .ok (.putfield 47, 3) := by decide +kernel
theorem dX11_init_82 : decode cX11_init 82 = .ok (.aload_n 0, 1) := by decide +kernel
theorem dX11_init_83 : decode cX11_init 83 = .ok (.new 51, 3) := by decide +kernel
theorem dX11_init_86 : decode cX11_init 86 = .ok (.dup, 1) := by decide +kernel
theorem dX11_init_87 : decode cX11_init 87 = .ok (.aload_n 0, 1) := by decide +kernel
theorem dX11_init_88 : decode cX11_init 88 = .ok (.getfield 47, 3) := by decide +kernel
theorem dX11_init_91 : decode cX11_init 91 = .ok (.invokespecial 53, 3) := by decide +kernel
theorem dX11_init_94 : decode cX11_init 94 = .ok (.putfield 56, 3) := by decide +kernel
theorem dX11_init_97 : decode cX11_init 97 = .ok (.aload_n 0, 1) := by decide +kernel
theorem dX11_init_98 : decode cX11_init 98 = .ok (.new 60, 3) := by decide +kernel
theorem dX11_init_101 : decode cX11_init 101 = .ok (.dup, 1) := by decide +kernel
theorem dX11_init_102 : decode cX11_init 102 = .ok (.aload_n 0, 1) := by decide +kernel
theorem dX11_init_103 : decode cX11_init 103 = .ok (.getfield 56, 3) := by decide +kernel
theorem dX11_init_106 : decode cX11_init 106 = .ok (.invokespecial 62, 3) := by decide +kernel
theorem dX11_init_109 : decode cX11_init 109 = .ok (.putfield 65, 3) := by decide +kernel
theorem dX11_init_112 : decode cX11_init 112 = .ok (.aload_n 0, 1) := by decide +kernel
theorem dX11_init_113 : decode cX11_init 113 = .ok (.new 69, 3) := by decide +kernel
theorem dX11_init_116 : decode cX11_init 116 = .ok (.dup, 1) := by decide +kernel
theorem dX11_init_117 : decode cX11_init 117 = .ok (.aload_n 0, 1) := by decide +kernel
theorem dX11_init_118 : decode cX11_init 118 = .ok (.getfield 56, 3) := by decide +kernel
theorem dX11_init_121 : decode cX11_init 121 = .ok (.invokespecial 71, 3) := by decide +kernel
theorem dX11_init_124 : decode cX11_init 124 = .ok (.putfield 72, 3) := by decide +kernel
theorem dX11_init_127 : decode cX11_init 127 = .ok (.aload_n 0, 1) := by decide +kernel
theorem dX11_init_128 : decode cX11_init 128 = .ok (.new 76, 3) := by decide +kernel
theorem dX11_init_131 : decode cX11_init 131 = .ok (.dup, 1) := by decide +kernel
theorem dX11_init_132 : decode cX11_init 132 = .ok (.invokespecial 78, 3) := by decide +kernel
theorem dX11_init_135 : decode cX11_init 135 = .ok (.putfield 79, 3) := by decide +kernel
theorem dX11_init_138 : decode cX11_init 138 = .ok (.aload_n 0, 1) := by decide +kernel
theorem dX11_init_139 : decode cX11_init 139 = .ok (.getfield 10, 3) := by decide +kernel
theorem dX11_init_142 : decode cX11_init 142 = .ok (.getstatic 83, 3) := by decide +kernel
theorem dX11_init_145 : decode cX11_init 145 = .ok (.getstatic 83, 3) := by decide +kernel
theorem dX11_init_148 : decode cX11_init 148 = .ok (.arraylength, 1) := by decide +kernel
theorem dX11_init_149 : decode cX11_init 149 = .ok (.invokevirtual 87, 3) := by decide +kernel
theorem dX11_init_152 : decode cX11_init 152 = .ok (.return_, 1) := by decide +kernel
theorem dX11_appendInput_0 : decode cX11_appendInput 0 = .ok (.aload_n 0, 1) := by decide +kernel
theorem dX11_appendInput_1 : decode cX11_appendInput 1 = .ok (.getfield 47, 3) := by decide +kernel
theorem dX11_appendInput_4 : decode cX11_appendInput 4 = .ok (.invokevirtual 91, 3) := by decide +kernel
theorem dX11_appendInput_7 : decode cX11_appendInput 7 = .ok (.ifCond .ne 5, 3) := by decide +kernel
theorem dX11_appendInput_10 : decode cX11_appendInput 10 = .ok (.iconst (-1), 1) := by decide +kernel
theorem dX11_appendInput_11 : decode cX11_appendInput 11 = .ok (.ireturn, 1) := by decide +kernel
theorem dX11_appendInput_12 : decode cX11_appendInput 12 = .ok (.aload_n 0, 1) := by decide +kernel
theorem dX11_appendInput_13 : decode cX11_appendInput 13 = .ok (.getfield 47, 3) := by decide +kernel
theorem dX11_appendInput_16 : decode cX11_appendInput 16 = .ok (.iload_n 1, 1) := by decide +kernel
theorem dX11_appendInput_17 : decode cX11_appendInput 17 = .ok (.invokevirtual 95, 3) := by decide +kernel
theorem dX11_appendInput_20 : decode cX11_appendInput 20 = .ok (.aload_n 0, 1) := by decide +kernel
theorem dX11_appendInput_21 : decode cX11_appendInput 21 = .ok (.getfield 47, 3) := by decide +kernel
theorem dX11_appendInput_24 : decode cX11_appendInput 24 = .ok (.iload_n 2, 1) := by decide +kernel
theorem dX11_appendInput_25 : decode cX11_appendInput 25 = .ok (.invokevirtual 95, 3) := by decide +kernel
theorem dX11_appendInput_28 : decode cX11_appendInput 28 = .ok (.aload_n 0, 1) := by decide +kernel
theorem dX11_appendInput_29 : decode cX11_appendInput 29 = .ok (.getfield 47, 3) := by decide +kernel
theorem dX11_appendInput_32 : decode cX11_appendInput 32 = .ok (.iload_n 3, 1) := by decide +kernel
theorem dX11_appendInput_33 : decode cX11_appendInput 33 = .ok (.invokevirtual 95, 3) := by decide +kernel
theorem dX11_appendInput_36 : decode cX11_appendInput 36 = .ok (.aload_n 0, 1) := by decide +kernel
theorem dX11_appendInput_37 : decode cX11_appendInput 37 = .ok (.getfield 47, 3) := by decide +kernel
theorem dX11_appendInput_40 : decode cX11_appendInput 40 = .ok (.iload 4, 2) := by decide +kernel
theorem dX11_appendInput_42 : decode cX11_appendInput 42 = .ok (.invokevirtual 95, 3) := by decide +kernel
theorem dX11_appendInput_45 : decode cX11_appendInput 45 = .ok (.aload_n 0, 1) := by decide +kernel
theorem dX11_appendInput_46 : decode cX11_appendInput 46 = .ok (.getfield 47, 3) := by decide +kernel
theorem dX11_appendInput_49 : decode cX11_appendInput 49 = .ok (.iload 5, 2) := by decide +kernel
theorem dX11_appendInput_51 : decode cX11_appendInput 51 = .ok (.invokevirtual 95, 3) := by decide +kernel
theorem dX11_appendInput_54 : decode cX11_appendInput 54 = .ok (.aload_n 0, 1) := by decide +kernel
theorem dX11_appendInput_55 : decode cX11_appendInput 55 = .ok (.getfield 47, 3) := by decide +kernel
theorem dX11_appendInput_58 : decode cX11_appendInput 58 = .ok (.getfield 99, 3) := by decide +kernel
theorem dX11_appendInput_61 : decode cX11_appendInput 61 = .ok (.ireturn, 1) := by decide +kernel
theorem dX11_truncateInput_0 : decode cX11_truncateInput 0 = .ok (.iload_n 1, 1) := by decide +kernel
theorem dX11_truncateInput_1 : decode cX11_truncateInput 1 = .ok (.ifCond .lt 14, 3) := by decide +kernel
theorem dX11_truncateInput_4 : decode cX11_truncateInput 4 = .ok (.iload_n 1, 1) := by decide +kernel
theorem dX11_truncateInput_5 : decode cX11_truncateInput 5 = .ok (.aload_n 0, 1) := by decide +kernel
theorem dX11_truncateInput_6 : decode cX11_truncateInput 6 = .ok (.getfield 47, 3) := by decide +kernel
theorem dX11_truncateInput_9 : decode cX11_truncateInput 9 = .ok (.getfield 99, 3) := by decide +kernel
theorem dX11_truncateInput_12 : decode cX11_truncateInput 12 = .ok (.if_icmp .le 5, 3) := by decide +kernel
theorem dX11_truncateInput_15 : decode cX11_truncateInput 15 = .ok (.iconst 0, 1) := by decide +kernel
theorem dX11_truncateInput_16 : decode cX11_truncateInput 16 = .ok (.ireturn, 1) := by decide +kernel
theorem dX11_truncateInput_17 : decode cX11_truncateInput 17 = .ok (.aload_n 0, 1) := by decide +kernel
theorem dX11_truncateInput_18 : decode cX11_truncateInput 18 = .ok (.getfield 47, 3) := by decide +kernel
theorem dX11_truncateInput_21 : decode cX11_truncateInput 21 = .ok (.iload_n 1, 1) := by decide +kernel
theorem dX11_truncateInput_22 : decode cX11_truncateInput 22 = .ok (.putfield 99, 3) := by decide +kernel
theorem dX11_truncateInput_25 : decode cX11_truncateInput 25 = .ok (.iconst 1, 1) := by decide +kernel
theorem dX11_truncateInput_26 : decode cX11_truncateInput 26 = .ok (.ireturn, 1) := by decide +kernel
theorem dX11_loadSetup_0 : decode cX11_loadSetup 0 = .ok (.aload_n 0, 1) := by decide +kernel
theorem dX11_loadSetup_1 : decode cX11_loadSetup 1 = .ok (.getfield 65, 3) := by decide +kernel
theorem dX11_loadSetup_4 : decode cX11_loadSetup 4 = .ok (.invokevirtual 103, 3) := by decide +kernel
theorem dX11_loadSetup_7 : decode cX11_loadSetup 7 = .ok (.istore_n 1, 1) := by decide +kernel
theorem dX11_loadSetup_8 : decode cX11_loadSetup 8 = .ok (.aload_n 0, 1) := by decide +kernel
theorem dX11_loadSetup_9 : decode cX11_loadSetup 9 = .ok (.getfield 47, 3) := by decide +kernel
theorem dX11_loadSetup_12 : decode cX11_loadSetup 12 = .ok (.iconst 0, 1) := by decide +kernel
theorem dX11_loadSetup_13 : decode cX11_loadSetup 13 = .ok (.putfield 99, 3) := by decide +kernel
theorem dX11_loadSetup_16 : decode cX11_loadSetup 16 = .ok (.iload_n 1, 1) := by decide +kernel
theorem dX11_loadSetup_17 : decode cX11_loadSetup 17 = .ok (.ifCond .ne 5, 3) := by decide +kernel
theorem dX11_loadSetup_20 : decode cX11_loadSetup 20 = .ok (.iconst (-1), 1) := by decide +kernel
theorem dX11_loadSetup_21 : decode cX11_loadSetup 21 = .ok (.ireturn, 1) := by decide +kernel
theorem dX11_loadSetup_22 : decode cX11_loadSetup 22 = .ok (.aload_n 0, 1) := by decide +kernel
theorem dX11_loadSetup_23 : decode cX11_loadSetup 23 = .ok (.getfield 10, 3) := by decide +kernel
theorem dX11_loadSetup_26 : decode cX11_loadSetup 26 = .ok (.aload_n 0, 1) := by decide +kernel
theorem dX11_loadSetup_27 : decode cX11_loadSetup 27 = .ok (.getfield 65, 3) := by decide +kernel
theorem dX11_loadSetup_30 : decode cX11_loadSetup 30 = .ok (.getfield 106, 3) := by decide +kernel
theorem dX11_loadSetup_33 : decode cX11_loadSetup 33 = .ok (.aload_n 0, 1) := by decide +kernel
theorem dX11_loadSetup_34 : decode cX11_loadSetup 34 = .ok (.getfield 65, 3) := by decide +kernel
theorem dX11_loadSetup_37 : decode cX11_loadSetup 37 = .ok (.getfield 109, 3) := by decide +kernel
theorem dX11_loadSetup_40 : decode cX11_loadSetup 40 = .ok (.invokevirtual 87, 3) := by decide +kernel
theorem dX11_loadSetup_43 : decode cX11_loadSetup 43 = .ok (.aload_n 0, 1) := by decide +kernel
theorem dX11_loadSetup_44 : decode cX11_loadSetup 44 = .ok (.getfield 40, 3) := by decide +kernel
theorem dX11_loadSetup_47 : decode cX11_loadSetup 47 = .ok (.invokevirtual 112, 3) := by decide +kernel
theorem dX11_loadSetup_50 : decode cX11_loadSetup 50 = .ok (.aload_n 0, 1) := by decide +kernel
theorem dX11_loadSetup_51 : decode cX11_loadSetup 51 = .ok (.iconst 0, 1) := by decide +kernel
theorem dX11_loadSetup_52 : decode cX11_loadSetup 52 = .ok (.putfield 115, 3) := by decide +kernel
theorem dX11_loadSetup_55 : decode cX11_loadSetup 55 = .ok (.aload_n 0, 1) := by decide +kernel
theorem dX11_loadSetup_56 : decode cX11_loadSetup 56 = .ok (.getfield 65, 3) := by decide +kernel
theorem dX11_loadSetup_59 : decode cX11_loadSetup 59 = .ok (.getfield 109, 3) := by decide +kernel
theorem dX11_loadSetup_62 : decode cX11_loadSetup 62 = .ok (.ireturn, 1) := by decide +kernel
theorem dX11_runScript_0 : decode cX11_runScript 0 = .ok (.aload_n 0, 1) := by decide +kernel
theorem dX11_runScript_1 : decode cX11_runScript 1 = .ok (.getfield 72, 3) := by decide +kernel
theorem dX11_runScript_4 : decode cX11_runScript 4 = .ok (.invokevirtual 119, 3) := by decide +kernel
theorem dX11_runScript_7 : decode cX11_runScript 7 = .ok (.istore_n 1, 1) := by decide +kernel
theorem dX11_runScript_8 : decode cX11_runScript 8 = .ok (.aload_n 0, 1) := by decide +kernel
theorem dX11_runScript_9 : decode cX11_runScript 9 = .ok (.getfield 47, 3) := by decide +kernel
theorem dX11_runScript_12 : decode cX11_runScript 12 = .ok (.iconst 0, 1) := by decide +kernel
theorem dX11_runScript_13 : decode cX11_runScript 13 = .ok (.putfield 99, 3) := by decide +kernel
theorem dX11_runScript_16 : decode cX11_runScript 16 = .ok (.iload_n 1, 1) := by decide +kernel
theorem dX11_runScript_17 : decode cX11_runScript 17 = .ok (.ifCond .ne 5, 3) := by decide +kernel
theorem dX11_runScript_20 : decode cX11_runScript 20 = .ok (.iconst (-1), 1) := by decide +kernel
theorem dX11_runScript_21 : decode cX11_runScript 21 = .ok (.ireturn, 1) := by decide +kernel
theorem dX11_runScript_22 : decode cX11_runScript 22 = .ok (.aload_n 0, 1) := by decide +kernel
theorem dX11_runScript_23 : decode cX11_runScript 23 = .ok (.getfield 40, 3) := by decide +kernel
theorem dX11_runScript_26 : decode cX11_runScript 26 = .ok (.aload_n 0, 1) := by decide +kernel
theorem dX11_runScript_27 : decode cX11_runScript 27 = .ok (.getfield 10, 3) := by decide +kernel
theorem dX11_runScript_30 : decode cX11_runScript 30 = .ok (.invokevirtual 120, 3) := by decide +kernel
theorem dX11_runScript_33 : decode cX11_runScript 33 = .ok (.iconst 0, 1) := by decide +kernel
theorem dX11_runScript_34 : decode cX11_runScript 34 = .ok (.istore_n 2, 1) := by decide +kernel
theorem dX11_runScript_35 : decode cX11_runScript 35 = .ok (.iload_n 2, 1) := by decide +kernel
theorem dX11_runScript_36 : decode cX11_runScript 36 = .ok (.aload_n 0, 1) := by decide +kernel
theorem dX11_runScript_37 : decode cX11_runScript 37 = .ok (.getfield 72, 3) := by decide +kernel
theorem dX11_runScript_40 : decode cX11_runScript 40 = .ok (.getfield 123, 3) := by decide +kernel
theorem dX11_runScript_43 : decode cX11_runScript 43 = .ok (.if_icmp .ge 22, 3) := by decide +kernel
theorem dX11_runScript_46 : decode cX11_runScript 46 = .ok (.aload_n 0, 1) := by decide +kernel
theorem dX11_runScript_47 : decode cX11_runScript 47 = .ok (.iload_n 2, 1) := by decide +kernel
theorem dX11_runScript_48 : decode cX11_runScript 48 = .ok (.invokevirtual 124, 3) := by decide +kernel
theorem dX11_runScript_51 : decode cX11_runScript 51 = .ok (.ifCond .ne 14, 3) := by decide +kernel
theorem dX11_runScript_54 : decode cX11_runScript 54 = .ok (.aload_n 0, 1) := by decide +kernel
theorem dX11_runScript_55 : decode cX11_runScript 55 = .ok (.iload_n 2, 1) := by decide +kernel
theorem dX11_runScript_56 : decode cX11_runScript 56 = .ok (.invokevirtual 128, 3) := by decide +kernel
theorem dX11_runScript_59 : decode cX11_runScript 59 = .ok (.iinc 2 1, 3) := by decide +kernel
theorem dX11_runScript_62 : decode cX11_runScript 62 = .ok (.goto (-27), 3) := by decide +kernel
theorem dX11_runScript_65 : decode cX11_runScript 65 = .ok (.iload_n 2, 1) := by decide +kernel
theorem dX11_runScript_66 : decode cX11_runScript 66 = .ok (.ireturn, 1) := by decide +kernel
theorem dX11_errorCode_0 : decode cX11_errorCode 0 = .ok (.aload_n 0, 1) := by decide +kernel
theorem dX11_errorCode_1 : decode cX11_errorCode 1 = .ok (.getfield 56, 3) := by decide +kernel
theorem dX11_errorCode_4 : decode cX11_errorCode 4 = .ok (.getfield 131, 3) := by decide +kernel
theorem dX11_errorCode_7 : decode cX11_errorCode 7 = .ok (.ireturn, 1) := by decide +kernel
theorem dX11_errorOffset_0 : decode cX11_errorOffset 0 = .ok (.aload_n 0, 1) := by decide +kernel
theorem dX11_errorOffset_1 : decode cX11_errorOffset 1 = .ok (.getfield 56, 3) := by decide +kernel
theorem dX11_errorOffset_4 : decode cX11_errorOffset 4 = .ok (.getfield 134, 3) := by decide +kernel
theorem dX11_errorOffset_7 : decode cX11_errorOffset 7 = .ok (.ireturn, 1) := by decide +kernel
theorem dX11_versionCount_0 : decode cX11_versionCount 0 = .ok (.aload_n 0, 1) := by decide +kernel
theorem dX11_versionCount_1 : decode cX11_versionCount 1 = .ok (.getfield 10, 3) := by decide +kernel
theorem dX11_versionCount_4 : decode cX11_versionCount 4 = .ok (.getfield 137, 3) := by decide +kernel
theorem dX11_versionCount_7 : decode cX11_versionCount 7 = .ok (.getfield 141, 3) := by decide +kernel
theorem dX11_versionCount_10 : decode cX11_versionCount 10 = .ok (.ireturn, 1) := by decide +kernel
theorem dX11_liveCount_0 : decode cX11_liveCount 0 = .ok (.aload_n 0, 1) := by decide +kernel
theorem dX11_liveCount_1 : decode cX11_liveCount 1 = .ok (.getfield 10, 3) := by decide +kernel
theorem dX11_liveCount_4 : decode cX11_liveCount 4 = .ok (.getfield 137, 3) := by decide +kernel
theorem dX11_liveCount_7 : decode cX11_liveCount 7 = .ok (.invokevirtual 144, 3) := by decide +kernel
theorem dX11_liveCount_10 : decode cX11_liveCount 10 = .ok (.ireturn, 1) := by decide +kernel
theorem dX11_isReleased_0 : decode cX11_isReleased 0 = .ok (.aload_n 0, 1) := by decide +kernel
theorem dX11_isReleased_1 : decode cX11_isReleased 1 = .ok (.iload_n 1, 1) := by decide +kernel
theorem dX11_isReleased_2 : decode cX11_isReleased 2 = .ok (.invokevirtual 148, 3) := by decide +kernel
theorem dX11_isReleased_5 : decode cX11_isReleased 5 = .ok (.aload_n 0, 1) := by decide +kernel
theorem dX11_isReleased_6 : decode cX11_isReleased 6 = .ok (.getfield 10, 3) := by decide +kernel
theorem dX11_isReleased_9 : decode cX11_isReleased 9 = .ok (.getfield 137, 3) := by decide +kernel
theorem dX11_isReleased_12 : decode cX11_isReleased 12 = .ok (.iload_n 1, 1) := by decide +kernel
theorem dX11_isReleased_13 : decode cX11_isReleased 13 = .ok (.invokevirtual 151, 3) := by decide +kernel
theorem dX11_isReleased_16 : decode cX11_isReleased 16 = .ok (.ifCond .ne 7, 3) := by decide +kernel
theorem dX11_isReleased_19 : decode cX11_isReleased 19 = .ok (.iconst 1, 1) := by decide +kernel
theorem dX11_isReleased_20 : decode cX11_isReleased 20 = .ok (.goto 4, 3) := by decide +kernel
theorem dX11_isReleased_23 : decode cX11_isReleased 23 = .ok (.iconst 0, 1) := by decide +kernel
theorem dX11_isReleased_24 : decode cX11_isReleased 24 = .ok (.ireturn, 1) := by decide +kernel
theorem dX11_parentOf_0 : decode cX11_parentOf 0 = .ok (.aload_n 0, 1) := by decide +kernel
theorem dX11_parentOf_1 : decode cX11_parentOf 1 = .ok (.iload_n 1, 1) := by decide +kernel
theorem dX11_parentOf_2 : decode cX11_parentOf 2 = .ok (.invokevirtual 148, 3) := by decide +kernel
theorem dX11_parentOf_5 : decode cX11_parentOf 5 = .ok (.aload_n 0, 1) := by decide +kernel
theorem dX11_parentOf_6 : decode cX11_parentOf 6 = .ok (.getfield 10, 3) := by decide +kernel
theorem dX11_parentOf_9 : decode cX11_parentOf 9 = .ok (.getfield 137, 3) := by decide +kernel
theorem dX11_parentOf_12 : decode cX11_parentOf 12 = .ok (.iload_n 1, 1) := by decide +kernel
theorem dX11_parentOf_13 : decode cX11_parentOf 13 = .ok (.invokevirtual 155, 3) := by decide +kernel
theorem dX11_parentOf_16 : decode cX11_parentOf 16 = .ok (.ireturn, 1) := by decide +kernel
theorem dX11_depthOf_0 : decode cX11_depthOf 0 = .ok (.aload_n 0, 1) := by decide +kernel
theorem dX11_depthOf_1 : decode cX11_depthOf 1 = .ok (.iload_n 1, 1) := by decide +kernel
theorem dX11_depthOf_2 : decode cX11_depthOf 2 = .ok (.invokevirtual 148, 3) := by decide +kernel
theorem dX11_depthOf_5 : decode cX11_depthOf 5 = .ok (.aload_n 0, 1) := by decide +kernel
theorem dX11_depthOf_6 : decode cX11_depthOf 6 = .ok (.getfield 10, 3) := by decide +kernel
theorem dX11_depthOf_9 : decode cX11_depthOf 9 = .ok (.getfield 137, 3) := by decide +kernel
theorem dX11_depthOf_12 : decode cX11_depthOf 12 = .ok (.iload_n 1, 1) := by decide +kernel
theorem dX11_depthOf_13 : decode cX11_depthOf 13 = .ok (.invokevirtual 158, 3) := by decide +kernel
theorem dX11_depthOf_16 : decode cX11_depthOf 16 = .ok (.ireturn, 1) := by decide +kernel
theorem dX11_childCount_0 : decode cX11_childCount 0 = .ok (.aload_n 0, 1) := by decide +kernel
theorem dX11_childCount_1 : decode cX11_childCount 1 = .ok (.iload_n 1, 1) := by decide +kernel
theorem dX11_childCount_2 : decode cX11_childCount 2 = .ok (.invokevirtual 148, 3) := by decide +kernel
theorem dX11_childCount_5 : decode cX11_childCount 5 = .ok (.aload_n 0, 1) := by decide +kernel
theorem dX11_childCount_6 : decode cX11_childCount 6 = .ok (.getfield 10, 3) := by decide +kernel
theorem dX11_childCount_9 : decode cX11_childCount 9 = .ok (.getfield 137, 3) := by decide +kernel
theorem dX11_childCount_12 : decode cX11_childCount 12 = .ok (.iload_n 1, 1) := by decide +kernel
theorem dX11_childCount_13 : decode cX11_childCount 13 = .ok (.invokevirtual 161, 3) := by decide +kernel
theorem dX11_childCount_16 : decode cX11_childCount 16 = .ok (.ireturn, 1) := by decide +kernel
theorem dX11_commonAncestor_0 : decode cX11_commonAncestor 0 = .ok (.aload_n 0, 1) := by decide +kernel
theorem dX11_commonAncestor_1 : decode cX11_commonAncestor 1 = .ok (.iload_n 1, 1) := by decide +kernel
theorem dX11_commonAncestor_2 : decode cX11_commonAncestor 2 = .ok (.invokevirtual 148, 3) := by decide +kernel
theorem dX11_commonAncestor_5 : decode cX11_commonAncestor 5 = .ok (.aload_n 0, 1) := by decide +kernel
theorem dX11_commonAncestor_6 : decode cX11_commonAncestor 6 = .ok (.iload_n 2, 1) := by decide +kernel
theorem dX11_commonAncestor_7 : decode cX11_commonAncestor 7 = .ok (.invokevirtual 148, 3) := by decide +kernel
theorem dX11_commonAncestor_10 : decode cX11_commonAncestor 10 = .ok (.aload_n 0, 1) := by decide +kernel
theorem dX11_commonAncestor_11 : decode cX11_commonAncestor 11 = .ok (.getfield 10, 3) := by decide +kernel
theorem dX11_commonAncestor_14 : decode cX11_commonAncestor 14 = .ok (.getfield 137, 3) := by decide +kernel
theorem dX11_commonAncestor_17 : decode cX11_commonAncestor 17 = .ok (.iload_n 1, 1) := by decide +kernel
theorem dX11_commonAncestor_18 : decode cX11_commonAncestor 18 = .ok (.iload_n 2, 1) := by decide +kernel
theorem dX11_commonAncestor_19 : decode cX11_commonAncestor 19 = .ok (.invokevirtual 164, 3) := by decide +kernel
theorem dX11_commonAncestor_22 : decode cX11_commonAncestor 22 = .ok (.ireturn, 1) := by decide +kernel
theorem dX11_size_0 : decode cX11_size 0 = .ok (.aload_n 0, 1) := by decide +kernel
theorem dX11_size_1 : decode cX11_size 1 = .ok (.iload_n 1, 1) := by decide +kernel
theorem dX11_size_2 : decode cX11_size 2 = .ok (.invokevirtual 168, 3) := by decide +kernel
theorem dX11_size_5 : decode cX11_size 5 = .ok (.aload_n 0, 1) := by decide +kernel
theorem dX11_size_6 : decode cX11_size 6 = .ok (.getfield 10, 3) := by decide +kernel
theorem dX11_size_9 : decode cX11_size 9 = .ok (.getfield 137, 3) := by decide +kernel
theorem dX11_size_12 : decode cX11_size 12 = .ok (.iload_n 1, 1) := by decide +kernel
theorem dX11_size_13 : decode cX11_size 13 = .ok (.invokevirtual 171, 3) := by decide +kernel
theorem dX11_size_16 : decode cX11_size 16 = .ok (.ireturn, 1) := by decide +kernel
theorem dX11_height_0 : decode cX11_height 0 = .ok (.aload_n 0, 1) := by decide +kernel
theorem dX11_height_1 : decode cX11_height 1 = .ok (.iload_n 1, 1) := by decide +kernel
theorem dX11_height_2 : decode cX11_height 2 = .ok (.invokevirtual 168, 3) := by decide +kernel
theorem dX11_height_5 : decode cX11_height 5 = .ok (.aload_n 0, 1) := by decide +kernel
theorem dX11_height_6 : decode cX11_height 6 = .ok (.getfield 10, 3) := by decide +kernel
theorem dX11_height_9 : decode cX11_height 9 = .ok (.iload_n 1, 1) := by decide +kernel
theorem dX11_height_10 : decode cX11_height 10 = .ok (.invokevirtual 174, 3) := by decide +kernel
theorem dX11_height_13 : decode cX11_height 13 = .ok (.ireturn, 1) := by decide +kernel
theorem dX11_rootOf_0 : decode cX11_rootOf 0 = .ok (.aload_n 0, 1) := by decide +kernel
theorem dX11_rootOf_1 : decode cX11_rootOf 1 = .ok (.iload_n 1, 1) := by decide +kernel
theorem dX11_rootOf_2 : decode cX11_rootOf 2 = .ok (.invokevirtual 168, 3) := by decide +kernel
theorem dX11_rootOf_5 : decode cX11_rootOf 5 = .ok (.aload_n 0, 1) := by decide +kernel
theorem dX11_rootOf_6 : decode cX11_rootOf 6 = .ok (.getfield 10, 3) := by decide +kernel
theorem dX11_rootOf_9 : decode cX11_rootOf 9 = .ok (.getfield 137, 3) := by decide +kernel
theorem dX11_rootOf_12 : decode cX11_rootOf 12 = .ok (.iload_n 1, 1) := by decide +kernel
theorem dX11_rootOf_13 : decode cX11_rootOf 13 = .ok (.invokevirtual 177, 3) := by decide +kernel
theorem dX11_rootOf_16 : decode cX11_rootOf 16 = .ok (.ireturn, 1) := by decide +kernel
theorem dX11_get_0 : decode cX11_get 0 = .ok (.aload_n 0, 1) := by decide +kernel
theorem dX11_get_1 : decode cX11_get 1 = .ok (.getfield 10, 3) := by decide +kernel
theorem dX11_get_4 : decode cX11_get 4 = .ok (.getfield 137, 3) := by decide +kernel
theorem dX11_get_7 : decode cX11_get 7 = .ok (.iload_n 1, 1) := by decide +kernel
theorem dX11_get_8 : decode cX11_get 8 = .ok (.iload_n 2, 1) := by decide +kernel
theorem dX11_get_9 : decode cX11_get 9 = .ok (.invokevirtual 180, 3) := by decide +kernel
theorem dX11_get_12 : decode cX11_get 12 = .ok (.invokestatic 183, 3) := by decide +kernel
theorem dX11_get_15 : decode cX11_get 15 = .ok (.aload_n 0, 1) := by decide +kernel
theorem dX11_get_16 : decode cX11_get 16 = .ok (.getfield 10, 3) := by decide +kernel
theorem dX11_get_19 : decode cX11_get 19 = .ok (.iload_n 1, 1) := by decide +kernel
theorem dX11_get_20 : decode cX11_get 20 = .ok (.iload_n 2, 1) := by decide +kernel
theorem dX11_get_21 : decode cX11_get 21 = .ok (.invokevirtual 186, 3) := by decide +kernel
theorem dX11_get_24 : decode cX11_get 24 = .ok (.ireturn, 1) := by decide +kernel
theorem dX11_leafOf_0 : decode cX11_leafOf 0 = .ok (.aload_n 0, 1) := by decide +kernel
theorem dX11_leafOf_1 : decode cX11_leafOf 1 = .ok (.getfield 10, 3) := by decide +kernel
theorem dX11_leafOf_4 : decode cX11_leafOf 4 = .ok (.getfield 137, 3) := by decide +kernel
theorem dX11_leafOf_7 : decode cX11_leafOf 7 = .ok (.iload_n 1, 1) := by decide +kernel
theorem dX11_leafOf_8 : decode cX11_leafOf 8 = .ok (.iload_n 2, 1) := by decide +kernel
theorem dX11_leafOf_9 : decode cX11_leafOf 9 = .ok (.invokevirtual 180, 3) := by decide +kernel
theorem dX11_leafOf_12 : decode cX11_leafOf 12 = .ok (.invokestatic 183, 3) := by decide +kernel
theorem dX11_leafOf_15 : decode cX11_leafOf 15 = .ok (.aload_n 0, 1) := by decide +kernel
theorem dX11_leafOf_16 : decode cX11_leafOf 16 = .ok (.getfield 10, 3) := by decide +kernel
theorem dX11_leafOf_19 : decode cX11_leafOf 19 = .ok (.iload_n 1, 1) := by decide +kernel
theorem dX11_leafOf_20 : decode cX11_leafOf 20 = .ok (.iload_n 2, 1) := by decide +kernel
theorem dX11_leafOf_21 : decode cX11_leafOf 21 = .ok (.invokevirtual 189, 3) := by decide +kernel
theorem dX11_leafOf_24 : decode cX11_leafOf 24 = .ok (.ireturn, 1) := by decide +kernel
theorem dX11_sum_0 : decode cX11_sum 0 = .ok (.aload_n 0, 1) := by decide +kernel
theorem dX11_sum_1 : decode cX11_sum 1 = .ok (.iload_n 1, 1) := by decide +kernel
theorem dX11_sum_2 : decode cX11_sum 2 = .ok (.invokevirtual 168, 3) := by decide +kernel
theorem dX11_sum_5 : decode cX11_sum 5 = .ok (.aload_n 0, 1) := by decide +kernel
theorem dX11_sum_6 : decode cX11_sum 6 = .ok (.getfield 10, 3) := by decide +kernel
theorem dX11_sum_9 : decode cX11_sum 9 = .ok (.iload_n 1, 1) := by decide +kernel
theorem dX11_sum_10 : decode cX11_sum 10 = .ok (.invokevirtual 192, 3) := by decide +kernel
theorem dX11_sum_13 : decode cX11_sum 13 = .ok (.ireturn, 1) := by decide +kernel
theorem dX11_indexOf_0 : decode cX11_indexOf 0 = .ok (.aload_n 0, 1) := by decide +kernel
theorem dX11_indexOf_1 : decode cX11_indexOf 1 = .ok (.iload_n 1, 1) := by decide +kernel
theorem dX11_indexOf_2 : decode cX11_indexOf 2 = .ok (.invokevirtual 168, 3) := by decide +kernel
theorem dX11_indexOf_5 : decode cX11_indexOf 5 = .ok (.aload_n 0, 1) := by decide +kernel
theorem dX11_indexOf_6 : decode cX11_indexOf 6 = .ok (.getfield 10, 3) := by decide +kernel
theorem dX11_indexOf_9 : decode cX11_indexOf 9 = .ok (.iload_n 1, 1) := by decide +kernel
theorem dX11_indexOf_10 : decode cX11_indexOf 10 = .ok (.iload_n 2, 1) := by decide +kernel
theorem dX11_indexOf_11 : decode cX11_indexOf 11 = .ok (.invokevirtual 195, 3) := by decide +kernel
theorem dX11_indexOf_14 : decode cX11_indexOf 14 = .ok (.ireturn, 1) := by decide +kernel
theorem dX11_createdNodes_0 : decode cX11_createdNodes 0 = .ok (.aload_n 0, 1) := by decide +kernel
theorem dX11_createdNodes_1 : decode cX11_createdNodes 1 = .ok (.getfield 10, 3) := by decide +kernel
theorem dX11_createdNodes_4 : decode cX11_createdNodes 4 = .ok (.getfield 198, 3) := by decide +kernel
theorem dX11_createdNodes_7 : decode cX11_createdNodes 7 = .ok (.getfield 202, 3) := by decide +kernel
theorem dX11_createdNodes_10 : decode cX11_createdNodes 10 = .ok (.ireturn, 1) := by decide +kernel
theorem dX11_storedNodes_0 : decode cX11_storedNodes 0 = .ok (.aload_n 0, 1) := by decide +kernel
theorem dX11_storedNodes_1 : decode cX11_storedNodes 1 = .ok (.getfield 10, 3) := by decide +kernel
theorem dX11_storedNodes_4 : decode cX11_storedNodes 4 = .ok (.getfield 198, 3) := by decide +kernel
theorem dX11_storedNodes_7 : decode cX11_storedNodes 7 = .ok (.invokevirtual 207, 3) := by decide +kernel
theorem dX11_storedNodes_10 : decode cX11_storedNodes 10 = .ok (.ireturn, 1) := by decide +kernel
theorem dX11_garbageNodes_0 : decode cX11_garbageNodes 0 = .ok (.aload_n 0, 1) := by decide +kernel
theorem dX11_garbageNodes_1 : decode cX11_garbageNodes 1 = .ok (.getfield 24, 3) := by decide +kernel
theorem dX11_garbageNodes_4 : decode cX11_garbageNodes 4 = .ok (.invokevirtual 210, 3) := by decide +kernel
theorem dX11_garbageNodes_7 : decode cX11_garbageNodes 7 = .ok (.ireturn, 1) := by decide +kernel
theorem dX11_nodesCreatedFor_0 : decode cX11_nodesCreatedFor 0 = .ok (.aload_n 0, 1) := by decide +kernel
theorem dX11_nodesCreatedFor_1 : decode cX11_nodesCreatedFor 1 = .ok (.iload_n 1, 1) := by decide +kernel
theorem dX11_nodesCreatedFor_2 : decode cX11_nodesCreatedFor 2 = .ok (.invokevirtual 148, 3) := by decide +kernel
theorem dX11_nodesCreatedFor_5 : decode cX11_nodesCreatedFor 5 = .ok (.aload_n 0, 1) := by decide +kernel
theorem dX11_nodesCreatedFor_6 : decode cX11_nodesCreatedFor 6 = .ok (.getfield 10, 3) := by decide +kernel
theorem dX11_nodesCreatedFor_9 : decode cX11_nodesCreatedFor 9 = .ok (.getfield 137, 3) := by decide +kernel
theorem dX11_nodesCreatedFor_12 : decode cX11_nodesCreatedFor 12 = .ok (.iload_n 1, 1) := by decide +kernel
theorem dX11_nodesCreatedFor_13 : decode cX11_nodesCreatedFor 13 = .ok (.invokevirtual 213, 3) := by decide +kernel
theorem dX11_nodesCreatedFor_16 : decode cX11_nodesCreatedFor 16 = .ok (.ireturn, 1) := by decide +kernel
theorem dX11_nodesOf_0 : decode cX11_nodesOf 0 = .ok (.aload_n 0, 1) := by decide +kernel
theorem dX11_nodesOf_1 : decode cX11_nodesOf 1 = .ok (.iload_n 1, 1) := by decide +kernel
theorem dX11_nodesOf_2 : decode cX11_nodesOf 2 = .ok (.invokevirtual 168, 3) := by decide +kernel
theorem dX11_nodesOf_5 : decode cX11_nodesOf 5 = .ok (.aload_n 0, 1) := by decide +kernel
theorem dX11_nodesOf_6 : decode cX11_nodesOf 6 = .ok (.getfield 10, 3) := by decide +kernel
theorem dX11_nodesOf_9 : decode cX11_nodesOf 9 = .ok (.iload_n 1, 1) := by decide +kernel
theorem dX11_nodesOf_10 : decode cX11_nodesOf 10 = .ok (.invokevirtual 216, 3) := by decide +kernel
theorem dX11_nodesOf_13 : decode cX11_nodesOf 13 = .ok (.ireturn, 1) := by decide +kernel
theorem dX11_sharedNodes_0 : decode cX11_sharedNodes 0 = .ok (.aload_n 0, 1) := by decide +kernel
theorem dX11_sharedNodes_1 : decode cX11_sharedNodes 1 = .ok (.iload_n 1, 1) := by decide +kernel
theorem dX11_sharedNodes_2 : decode cX11_sharedNodes 2 = .ok (.iload_n 2, 1) := by decide +kernel
theorem dX11_sharedNodes_3 : decode cX11_sharedNodes 3 = .ok (.invokevirtual 219, 3) := by decide +kernel
theorem dX11_sharedNodes_6 : decode cX11_sharedNodes 6 = .ok (.aload_n 0, 1) := by decide +kernel
theorem dX11_sharedNodes_7 : decode cX11_sharedNodes 7 = .ok (.getfield 24, 3) := by decide +kernel
theorem dX11_sharedNodes_10 : decode cX11_sharedNodes 10 = .ok (.iload_n 1, 1) := by decide +kernel
theorem dX11_sharedNodes_11 : decode cX11_sharedNodes 11 = .ok (.iload_n 2, 1) := by decide +kernel
theorem dX11_sharedNodes_12 : decode cX11_sharedNodes 12 = .ok (.invokevirtual 223, 3) := by decide +kernel
theorem dX11_sharedNodes_15 : decode cX11_sharedNodes 15 = .ok (.ireturn, 1) := by decide +kernel
theorem dX11_exclusiveNodes_0 : decode cX11_exclusiveNodes 0 = .ok (.aload_n 0, 1) := by decide +kernel
theorem dX11_exclusiveNodes_1 : decode cX11_exclusiveNodes 1 = .ok (.iload_n 1, 1) := by decide +kernel
theorem dX11_exclusiveNodes_2 : decode cX11_exclusiveNodes 2 = .ok (.invokevirtual 168, 3) := by decide +kernel
theorem dX11_exclusiveNodes_5 : decode cX11_exclusiveNodes 5 = .ok (.aload_n 0, 1) := by decide +kernel
theorem dX11_exclusiveNodes_6 : decode cX11_exclusiveNodes 6 = .ok (.getfield 24, 3) := by decide +kernel
theorem dX11_exclusiveNodes_9 : decode cX11_exclusiveNodes 9 = .ok (.iload_n 1, 1) := by decide +kernel
theorem dX11_exclusiveNodes_10 : decode cX11_exclusiveNodes 10 = .ok (.invokevirtual 226, 3) := by decide +kernel
theorem dX11_exclusiveNodes_13 : decode cX11_exclusiveNodes 13 = .ok (.ireturn, 1) := by decide +kernel
theorem dX11_isLeaf_0 : decode cX11_isLeaf 0 = .ok (.aload_n 0, 1) := by decide +kernel
theorem dX11_isLeaf_1 : decode cX11_isLeaf 1 = .ok (.iload_n 1, 1) := by decide +kernel
theorem dX11_isLeaf_2 : decode cX11_isLeaf 2 = .ok (.invokevirtual 229, 3) := by decide +kernel
theorem dX11_isLeaf_5 : decode cX11_isLeaf 5 = .ok (.aload_n 0, 1) := by decide +kernel
theorem dX11_isLeaf_6 : decode cX11_isLeaf 6 = .ok (.getfield 10, 3) := by decide +kernel
theorem dX11_isLeaf_9 : decode cX11_isLeaf 9 = .ok (.getfield 198, 3) := by decide +kernel
theorem dX11_isLeaf_12 : decode cX11_isLeaf 12 = .ok (.iload_n 1, 1) := by decide +kernel
theorem dX11_isLeaf_13 : decode cX11_isLeaf 13 = .ok (.invokevirtual 232, 3) := by decide +kernel
theorem dX11_isLeaf_16 : decode cX11_isLeaf 16 = .ok (.iconst 1, 1) := by decide +kernel
theorem dX11_isLeaf_17 : decode cX11_isLeaf 17 = .ok (.if_icmp .ne 7, 3) := by decide +kernel
theorem dX11_isLeaf_20 : decode cX11_isLeaf 20 = .ok (.iconst 1, 1) := by decide +kernel
theorem dX11_isLeaf_21 : decode cX11_isLeaf 21 = .ok (.goto 4, 3) := by decide +kernel
theorem dX11_isLeaf_24 : decode cX11_isLeaf 24 = .ok (.iconst 0, 1) := by decide +kernel
theorem dX11_isLeaf_25 : decode cX11_isLeaf 25 = .ok (.ireturn, 1) := by decide +kernel
theorem dX11_entryCount_0 : decode cX11_entryCount 0 = .ok (.aload_n 0, 1) := by decide +kernel
theorem dX11_entryCount_1 : decode cX11_entryCount 1 = .ok (.iload_n 1, 1) := by decide +kernel
theorem dX11_entryCount_2 : decode cX11_entryCount 2 = .ok (.invokevirtual 229, 3) := by decide +kernel
theorem dX11_entryCount_5 : decode cX11_entryCount 5 = .ok (.aload_n 0, 1) := by decide +kernel
theorem dX11_entryCount_6 : decode cX11_entryCount 6 = .ok (.getfield 10, 3) := by decide +kernel
theorem dX11_entryCount_9 : decode cX11_entryCount 9 = .ok (.getfield 198, 3) := by decide +kernel
theorem dX11_entryCount_12 : decode cX11_entryCount 12 = .ok (.iload_n 1, 1) := by decide +kernel
theorem dX11_entryCount_13 : decode cX11_entryCount 13 = .ok (.invokevirtual 235, 3) := by decide +kernel
theorem dX11_entryCount_16 : decode cX11_entryCount 16 = .ok (.ireturn, 1) := by decide +kernel
theorem dX11_childOf_0 : decode cX11_childOf 0 = .ok (.aload_n 0, 1) := by decide +kernel
theorem dX11_childOf_1 : decode cX11_childOf 1 = .ok (.iload_n 1, 1) := by decide +kernel
theorem dX11_childOf_2 : decode cX11_childOf 2 = .ok (.invokevirtual 229, 3) := by decide +kernel
theorem dX11_childOf_5 : decode cX11_childOf 5 = .ok (.aload_n 0, 1) := by decide +kernel
theorem dX11_childOf_6 : decode cX11_childOf 6 = .ok (.getfield 10, 3) := by decide +kernel
theorem dX11_childOf_9 : decode cX11_childOf 9 = .ok (.getfield 198, 3) := by decide +kernel
theorem dX11_childOf_12 : decode cX11_childOf 12 = .ok (.iload_n 1, 1) := by decide +kernel
theorem dX11_childOf_13 : decode cX11_childOf 13 = .ok (.iload_n 2, 1) := by decide +kernel
theorem dX11_childOf_14 : decode cX11_childOf 14 = .ok (.invokevirtual 238, 3) := by decide +kernel
theorem dX11_childOf_17 : decode cX11_childOf 17 = .ok (.ireturn, 1) := by decide +kernel
theorem dX11_referencesTo_0 : decode cX11_referencesTo 0 = .ok (.aload_n 0, 1) := by decide +kernel
theorem dX11_referencesTo_1 : decode cX11_referencesTo 1 = .ok (.iload_n 1, 1) := by decide +kernel
theorem dX11_referencesTo_2 : decode cX11_referencesTo 2 = .ok (.invokevirtual 229, 3) := by decide +kernel
theorem dX11_referencesTo_5 : decode cX11_referencesTo 5 = .ok (.aload_n 0, 1) := by decide +kernel
theorem dX11_referencesTo_6 : decode cX11_referencesTo 6 = .ok (.getfield 10, 3) := by decide +kernel
theorem dX11_referencesTo_9 : decode cX11_referencesTo 9 = .ok (.getfield 137, 3) := by decide +kernel
theorem dX11_referencesTo_12 : decode cX11_referencesTo 12 = .ok (.iload_n 1, 1) := by decide +kernel
theorem dX11_referencesTo_13 : decode cX11_referencesTo 13 = .ok (.invokevirtual 241, 3) := by decide +kernel
theorem dX11_referencesTo_16 : decode cX11_referencesTo 16 = .ok (.aload_n 0, 1) := by decide +kernel
theorem dX11_referencesTo_17 : decode cX11_referencesTo 17 = .ok (.getfield 10, 3) := by decide +kernel
theorem dX11_referencesTo_20 : decode cX11_referencesTo 20 = .ok (.getfield 198, 3) := by decide +kernel
theorem dX11_referencesTo_23 : decode cX11_referencesTo 23 = .ok (.iload_n 1, 1) := by decide +kernel
theorem dX11_referencesTo_24 : decode cX11_referencesTo 24 = .ok (.invokevirtual 244, 3) := by decide +kernel
theorem dX11_referencesTo_27 : decode cX11_referencesTo 27 = .ok (.iadd, 1) := by decide +kernel
theorem dX11_referencesTo_28 : decode cX11_referencesTo 28 = .ok (.ireturn, 1) := by decide +kernel
theorem dX11_differences_0 : decode cX11_differences 0 = .ok (.aload_n 0, 1) := by decide +kernel
theorem dX11_differences_1 : decode cX11_differences 1 = .ok (.iload_n 1, 1) := by decide +kernel
theorem dX11_differences_2 : decode cX11_differences 2 = .ok (.iload_n 2, 1) := by decide +kernel
theorem dX11_differences_3 : decode cX11_differences 3 = .ok (.invokevirtual 219, 3) := by decide +kernel
theorem dX11_differences_6 : decode cX11_differences 6 = .ok (.aload_n 0, 1) := by decide +kernel
theorem dX11_differences_7 : decode cX11_differences 7 = .ok (.getfield 10, 3) := by decide +kernel
theorem dX11_differences_10 : decode cX11_differences 10 = .ok (.iload_n 1, 1) := by decide +kernel
theorem dX11_differences_11 : decode cX11_differences 11 = .ok (.iload_n 2, 1) := by decide +kernel
theorem dX11_differences_12 : decode cX11_differences 12 = .ok (.invokevirtual 247, 3) := by decide +kernel
theorem dX11_differences_15 : decode cX11_differences 15 = .ok (.ireturn, 1) := by decide +kernel
theorem dX11_firstDifference_0 : decode cX11_firstDifference 0 = .ok (.aload_n 0, 1) := by decide +kernel
theorem dX11_firstDifference_1 : decode cX11_firstDifference 1 = .ok (.iload_n 1, 1) := by decide +kernel
theorem dX11_firstDifference_2 : decode cX11_firstDifference 2 = .ok (.iload_n 2, 1) := by decide +kernel
theorem dX11_firstDifference_3 : decode cX11_firstDifference 3 = .ok (.invokevirtual 219, 3) := by decide +kernel
theorem dX11_firstDifference_6 : decode cX11_firstDifference 6 = .ok (.aload_n 0, 1) := by decide +kernel
theorem dX11_firstDifference_7 : decode cX11_firstDifference 7 = .ok (.getfield 10, 3) := by decide +kernel
theorem dX11_firstDifference_10 : decode cX11_firstDifference 10 = .ok (.iload_n 1, 1) := by decide +kernel
theorem dX11_firstDifference_11 : decode cX11_firstDifference 11 = .ok (.iload_n 2, 1) := by decide +kernel
theorem dX11_firstDifference_12 : decode cX11_firstDifference 12 = .ok (.invokevirtual 250, 3) := by decide +kernel
theorem dX11_firstDifference_15 : decode cX11_firstDifference 15 = .ok (.ireturn, 1) := by decide +kernel
theorem dX11_comparisonCost_0 : decode cX11_comparisonCost 0 = .ok (.aload_n 0, 1) := by decide +kernel
theorem dX11_comparisonCost_1 : decode cX11_comparisonCost 1 = .ok (.iload_n 1, 1) := by decide +kernel
theorem dX11_comparisonCost_2 : decode cX11_comparisonCost 2 = .ok (.iload_n 2, 1) := by decide +kernel
theorem dX11_comparisonCost_3 : decode cX11_comparisonCost 3 = .ok (.invokevirtual 219, 3) := by decide +kernel
theorem dX11_comparisonCost_6 : decode cX11_comparisonCost 6 = .ok (.aload_n 0, 1) := by decide +kernel
theorem dX11_comparisonCost_7 : decode cX11_comparisonCost 7 = .ok (.getfield 10, 3) := by decide +kernel
theorem dX11_comparisonCost_10 : decode cX11_comparisonCost 10 = .ok (.iload_n 1, 1) := by decide +kernel
theorem dX11_comparisonCost_11 : decode cX11_comparisonCost 11 = .ok (.iload_n 2, 1) := by decide +kernel
theorem dX11_comparisonCost_12 : decode cX11_comparisonCost 12 = .ok (.invokevirtual 253, 3) := by decide +kernel
theorem dX11_comparisonCost_15 : decode cX11_comparisonCost 15 = .ok (.ireturn, 1) := by decide +kernel
theorem dX11_nodesForSet_0 : decode cX11_nodesForSet 0 = .ok (.aload_n 0, 1) := by decide +kernel
theorem dX11_nodesForSet_1 : decode cX11_nodesForSet 1 = .ok (.getfield 10, 3) := by decide +kernel
theorem dX11_nodesForSet_4 : decode cX11_nodesForSet 4 = .ok (.getfield 137, 3) := by decide +kernel
theorem dX11_nodesForSet_7 : decode cX11_nodesForSet 7 = .ok (.iload_n 1, 1) := by decide +kernel
theorem dX11_nodesForSet_8 : decode cX11_nodesForSet 8 = .ok (.iload_n 2, 1) := by decide +kernel
theorem dX11_nodesForSet_9 : decode cX11_nodesForSet 9 = .ok (.iload_n 3, 1) := by decide +kernel
theorem dX11_nodesForSet_10 : decode cX11_nodesForSet 10 = .ok (.invokevirtual 256, 3) := by decide +kernel
theorem dX11_nodesForSet_13 : decode cX11_nodesForSet 13 = .ok (.invokestatic 183, 3) := by decide +kernel
theorem dX11_nodesForSet_16 : decode cX11_nodesForSet 16 = .ok (.aload_n 0, 1) := by decide +kernel
theorem dX11_nodesForSet_17 : decode cX11_nodesForSet 17 = .ok (.getfield 10, 3) := by decide +kernel
theorem dX11_nodesForSet_20 : decode cX11_nodesForSet 20 = .ok (.iload_n 1, 1) := by decide +kernel
theorem dX11_nodesForSet_21 : decode cX11_nodesForSet 21 = .ok (.iload_n 2, 1) := by decide +kernel
theorem dX11_nodesForSet_22 : decode cX11_nodesForSet 22 = .ok (.invokevirtual 186, 3) := by decide +kernel
theorem dX11_nodesForSet_25 : decode cX11_nodesForSet 25 = .ok (.iload_n 3, 1) := by decide +kernel
theorem dX11_nodesForSet_26 : decode cX11_nodesForSet 26 = .ok (.if_icmp .ne 7, 3) := by decide +kernel
theorem dX11_nodesForSet_29 : decode cX11_nodesForSet 29 = .ok (.iconst 0, 1) := by decide +kernel
theorem dX11_nodesForSet_30 : decode cX11_nodesForSet 30 = .ok (.goto 11, 3) := by decide +kernel
theorem dX11_nodesForSet_33 : decode cX11_nodesForSet 33 = .ok (.aload_n 0, 1) := by decide +kernel
theorem dX11_nodesForSet_34 : decode cX11_nodesForSet 34 = .ok (.getfield 10, 3) := by decide +kernel
theorem dX11_nodesForSet_37 : decode cX11_nodesForSet 37 = .ok (.iload_n 1, 1) := by decide +kernel
theorem dX11_nodesForSet_38 : decode cX11_nodesForSet 38 = .ok (.invokevirtual 174, 3) := by decide +kernel
theorem dX11_nodesForSet_41 : decode cX11_nodesForSet 41 = .ok (.ireturn, 1) := by decide +kernel
theorem dX11_nodesForAppend_0 : decode cX11_nodesForAppend 0 = .ok (.aload_n 0, 1) := by decide +kernel
theorem dX11_nodesForAppend_1 : decode cX11_nodesForAppend 1 = .ok (.iload_n 1, 1) := by decide +kernel
theorem dX11_nodesForAppend_2 : decode cX11_nodesForAppend 2 = .ok (.invokevirtual 168, 3) := by decide +kernel
theorem dX11_nodesForAppend_5 : decode cX11_nodesForAppend 5 = .ok (.aload_n 0, 1) := by decide +kernel
theorem dX11_nodesForAppend_6 : decode cX11_nodesForAppend 6 = .ok (.getfield 10, 3) := by decide +kernel
theorem dX11_nodesForAppend_9 : decode cX11_nodesForAppend 9 = .ok (.getfield 137, 3) := by decide +kernel
theorem dX11_nodesForAppend_12 : decode cX11_nodesForAppend 12 = .ok (.iload_n 1, 1) := by decide +kernel
theorem dX11_nodesForAppend_13 : decode cX11_nodesForAppend 13 = .ok (.invokevirtual 171, 3) := by decide +kernel
theorem dX11_nodesForAppend_16 : decode cX11_nodesForAppend 16 = .ok (.iconst 1, 1) := by decide +kernel
theorem dX11_nodesForAppend_17 : decode cX11_nodesForAppend 17 = .ok (.iadd, 1) := by decide +kernel
theorem dX11_nodesForAppend_18 : decode cX11_nodesForAppend 18 = .ok (.istore_n 2, 1) := by decide +kernel
theorem dX11_nodesForAppend_19 : decode cX11_nodesForAppend 19 = .ok (.iload_n 2, 1) := by decide +kernel
theorem dX11_nodesForAppend_20 : decode cX11_nodesForAppend 20 = .ok (.bipush 64, 2) := by decide +kernel
theorem dX11_nodesForAppend_22 : decode cX11_nodesForAppend 22 = .ok (.if_icmp .le 7, 3) := by decide +kernel
theorem dX11_nodesForAppend_25 : decode cX11_nodesForAppend 25 = .ok (.iconst (-1), 1) := by decide +kernel
theorem dX11_nodesForAppend_26 : decode cX11_nodesForAppend 26 = .ok (.goto 7, 3) := by decide +kernel
theorem dX11_nodesForAppend_29 : decode cX11_nodesForAppend 29 = .ok (.iload_n 2, 1) := by decide +kernel
theorem dX11_nodesForAppend_30 : decode cX11_nodesForAppend 30 = .ok (.invokestatic 260, 3) := by decide +kernel
theorem dX11_nodesForAppend_33 : decode cX11_nodesForAppend 33 = .ok (.ireturn, 1) := by decide +kernel
theorem dX11_garbageIfReleased_0 : decode cX11_garbageIfReleased 0 = .ok (.aload_n 0, 1) := by decide +kernel
theorem dX11_garbageIfReleased_1 : decode cX11_garbageIfReleased 1 = .ok (.iload_n 1, 1) := by decide +kernel
theorem dX11_garbageIfReleased_2 : decode cX11_garbageIfReleased 2 = .ok (.invokevirtual 168, 3) := by decide +kernel
theorem dX11_garbageIfReleased_5 : decode cX11_garbageIfReleased 5 = .ok (.aload_n 0, 1) := by decide +kernel
theorem dX11_garbageIfReleased_6 : decode cX11_garbageIfReleased 6 = .ok (.getfield 24, 3) := by decide +kernel
theorem dX11_garbageIfReleased_9 : decode cX11_garbageIfReleased 9 = .ok (.iload_n 1, 1) := by decide +kernel
theorem dX11_garbageIfReleased_10 : decode cX11_garbageIfReleased 10 = .ok (.invokevirtual 226, 3) := by decide +kernel
theorem dX11_garbageIfReleased_13 : decode cX11_garbageIfReleased 13 = .ok (.ireturn, 1) := by decide +kernel
theorem dX11_largestVersion_0 : decode cX11_largestVersion 0 = .ok (.aload_n 0, 1) := by decide +kernel
theorem dX11_largestVersion_1 : decode cX11_largestVersion 1 = .ok (.getfield 10, 3) := by decide +kernel
theorem dX11_largestVersion_4 : decode cX11_largestVersion 4 = .ok (.getfield 137, 3) := by decide +kernel
theorem dX11_largestVersion_7 : decode cX11_largestVersion 7 = .ok (.invokevirtual 263, 3) := by decide +kernel
theorem dX11_largestVersion_10 : decode cX11_largestVersion 10 = .ok (.ireturn, 1) := by decide +kernel
theorem dX11_sharing_0 : decode cX11_sharing 0 = .ok (.aload_n 0, 1) := by decide +kernel
theorem dX11_sharing_1 : decode cX11_sharing 1 = .ok (.getfield 24, 3) := by decide +kernel
theorem dX11_sharing_4 : decode cX11_sharing 4 = .ok (.iconst (-1), 1) := by decide +kernel
theorem dX11_sharing_5 : decode cX11_sharing 5 = .ok (.invokevirtual 266, 3) := by decide +kernel
theorem dX11_sharing_8 : decode cX11_sharing 8 = .ok (.istore_n 1, 1) := by decide +kernel
theorem dX11_sharing_9 : decode cX11_sharing 9 = .ok (.iload_n 1, 1) := by decide +kernel
theorem dX11_sharing_10 : decode cX11_sharing 10 = .ok (.ifCond .ne 7, 3) := by decide +kernel
theorem dX11_sharing_13 : decode cX11_sharing 13 = .ok (.dconst 0, 1) := by decide +kernel
theorem dX11_sharing_14 : decode cX11_sharing 14 = .ok (.goto 14, 3) := by decide +kernel
theorem dX11_sharing_17 : decode cX11_sharing 17 = .ok (.aload_n 0, 1) := by decide +kernel
theorem dX11_sharing_18 : decode cX11_sharing 18 = .ok (.getfield 10, 3) := by decide +kernel
theorem dX11_sharing_21 : decode cX11_sharing 21 = .ok (.invokevirtual 269, 3) := by decide +kernel
theorem dX11_sharing_24 : decode cX11_sharing 24 = .ok (.i2d, 1) := by decide +kernel
theorem dX11_sharing_25 : decode cX11_sharing 25 = .ok (.iload_n 1, 1) := by decide +kernel
theorem dX11_sharing_26 : decode cX11_sharing 26 = .ok (.i2d, 1) := by decide +kernel
theorem dX11_sharing_27 : decode cX11_sharing 27 = .ok (.ddiv, 1) := by decide +kernel
theorem dX11_sharing_28 : decode cX11_sharing 28 = .ok (.dreturn, 1) := by decide +kernel
theorem dX11_garbagePart_0 : decode cX11_garbagePart 0 = .ok (.aload_n 0, 1) := by decide +kernel
theorem dX11_garbagePart_1 : decode cX11_garbagePart 1 = .ok (.getfield 10, 3) := by decide +kernel
theorem dX11_garbagePart_4 : decode cX11_garbagePart 4 = .ok (.getfield 198, 3) := by decide +kernel
theorem dX11_garbagePart_7 : decode cX11_garbagePart 7 = .ok (.invokevirtual 207, 3) := by decide +kernel
theorem dX11_garbagePart_10 : decode cX11_garbagePart 10 = .ok (.istore_n 1, 1) := by decide +kernel
theorem dX11_garbagePart_11 : decode cX11_garbagePart 11 = .ok (.iload_n 1, 1) := by decide +kernel
theorem dX11_garbagePart_12 : decode cX11_garbagePart 12 = .ok (.ifCond .ne 7, 3) := by decide +kernel
theorem dX11_garbagePart_15 : decode cX11_garbagePart 15 = .ok (.fconst 0, 1) := by decide +kernel
theorem dX11_garbagePart_16 : decode cX11_garbagePart 16 = .ok (.goto 14, 3) := by decide +kernel
theorem dX11_garbagePart_19 : decode cX11_garbagePart 19 = .ok (.aload_n 0, 1) := by decide +kernel
theorem dX11_garbagePart_20 : decode cX11_garbagePart 20 = .ok (.getfield 24, 3) := by decide +kernel
theorem dX11_garbagePart_23 : decode cX11_garbagePart 23 = .ok (.invokevirtual 210, 3) := by decide +kernel
theorem dX11_garbagePart_26 : decode cX11_garbagePart 26 = .ok (.i2f, 1) := by decide +kernel
theorem dX11_garbagePart_27 : decode cX11_garbagePart 27 = .ok (.iload_n 1, 1) := by decide +kernel
theorem dX11_garbagePart_28 : decode cX11_garbagePart 28 = .ok (.i2f, 1) := by decide +kernel
theorem dX11_garbagePart_29 : decode cX11_garbagePart 29 = .ok (.fdiv, 1) := by decide +kernel
theorem dX11_garbagePart_30 : decode cX11_garbagePart 30 = .ok (.freturn, 1) := by decide +kernel
theorem dX11_isConsistent_0 : decode cX11_isConsistent 0 = .ok (.aload_n 0, 1) := by decide +kernel
theorem dX11_isConsistent_1 : decode cX11_isConsistent 1 = .ok (.getfield 33, 3) := by decide +kernel
theorem dX11_isConsistent_4 : decode cX11_isConsistent 4 = .ok (.invokevirtual 272, 3) := by decide +kernel
theorem dX11_isConsistent_7 : decode cX11_isConsistent 7 = .ok (.ireturn, 1) := by decide +kernel
theorem dX11_set_0 : decode cX11_set 0 = .ok (.aload_n 0, 1) := by decide +kernel
theorem dX11_set_1 : decode cX11_set 1 = .ok (.aload_n 0, 1) := by decide +kernel
theorem dX11_set_2 : decode cX11_set 2 = .ok (.getfield 10, 3) := by decide +kernel
theorem dX11_set_5 : decode cX11_set 5 = .ok (.getfield 137, 3) := by decide +kernel
theorem dX11_set_8 : decode cX11_set 8 = .ok (.iload_n 1, 1) := by decide +kernel
theorem dX11_set_9 : decode cX11_set 9 = .ok (.iload_n 2, 1) := by decide +kernel
theorem dX11_set_10 : decode cX11_set 10 = .ok (.iload_n 3, 1) := by decide +kernel
theorem dX11_set_11 : decode cX11_set 11 = .ok (.invokevirtual 275, 3) := by decide +kernel
theorem dX11_set_14 : decode cX11_set 14 = .ok (.invokevirtual 278, 3) := by decide +kernel
theorem dX11_set_17 : decode cX11_set 17 = .ok (.aload_n 0, 1) := by decide +kernel
theorem dX11_set_18 : decode cX11_set 18 = .ok (.getfield 10, 3) := by decide +kernel
theorem dX11_set_21 : decode cX11_set 21 = .ok (.iload_n 1, 1) := by decide +kernel
theorem dX11_set_22 : decode cX11_set 22 = .ok (.iload_n 2, 1) := by decide +kernel
theorem dX11_set_23 : decode cX11_set 23 = .ok (.iload_n 3, 1) := by decide +kernel
theorem dX11_set_24 : decode cX11_set 24 = .ok (.invokevirtual 281, 3) := by decide +kernel
theorem dX11_set_27 : decode cX11_set 27 = .ok (.ireturn, 1) := by decide +kernel
theorem dX11_append_0 : decode cX11_append 0 = .ok (.aload_n 0, 1) := by decide +kernel
theorem dX11_append_1 : decode cX11_append 1 = .ok (.aload_n 0, 1) := by decide +kernel
theorem dX11_append_2 : decode cX11_append 2 = .ok (.getfield 10, 3) := by decide +kernel
theorem dX11_append_5 : decode cX11_append 5 = .ok (.getfield 137, 3) := by decide +kernel
theorem dX11_append_8 : decode cX11_append 8 = .ok (.iload_n 1, 1) := by decide +kernel
theorem dX11_append_9 : decode cX11_append 9 = .ok (.iload_n 2, 1) := by decide +kernel
theorem dX11_append_10 : decode cX11_append 10 = .ok (.invokevirtual 284, 3) := by decide +kernel
theorem dX11_append_13 : decode cX11_append 13 = .ok (.invokevirtual 278, 3) := by decide +kernel
theorem dX11_append_16 : decode cX11_append 16 = .ok (.aload_n 0, 1) := by decide +kernel
theorem dX11_append_17 : decode cX11_append 17 = .ok (.getfield 10, 3) := by decide +kernel
theorem dX11_append_20 : decode cX11_append 20 = .ok (.iload_n 1, 1) := by decide +kernel
theorem dX11_append_21 : decode cX11_append 21 = .ok (.iload_n 2, 1) := by decide +kernel
theorem dX11_append_22 : decode cX11_append 22 = .ok (.invokevirtual 287, 3) := by decide +kernel
theorem dX11_append_25 : decode cX11_append 25 = .ok (.ireturn, 1) := by decide +kernel
theorem dX11_truncate_0 : decode cX11_truncate 0 = .ok (.aload_n 0, 1) := by decide +kernel
theorem dX11_truncate_1 : decode cX11_truncate 1 = .ok (.aload_n 0, 1) := by decide +kernel
theorem dX11_truncate_2 : decode cX11_truncate 2 = .ok (.getfield 10, 3) := by decide +kernel
theorem dX11_truncate_5 : decode cX11_truncate 5 = .ok (.getfield 137, 3) := by decide +kernel
theorem dX11_truncate_8 : decode cX11_truncate 8 = .ok (.iload_n 1, 1) := by decide +kernel
theorem dX11_truncate_9 : decode cX11_truncate 9 = .ok (.iload_n 2, 1) := by decide +kernel
theorem dX11_truncate_10 : decode cX11_truncate 10 = .ok (.invokevirtual 290, 3) := by decide +kernel
theorem dX11_truncate_13 : decode cX11_truncate 13 = .ok (.invokevirtual 278, 3) := by decide +kernel
theorem dX11_truncate_16 : decode cX11_truncate 16 = .ok (.aload_n 0, 1) := by decide +kernel
theorem dX11_truncate_17 : decode cX11_truncate 17 = .ok (.getfield 10, 3) := by decide +kernel
theorem dX11_truncate_20 : decode cX11_truncate 20 = .ok (.iload_n 1, 1) := by decide +kernel
theorem dX11_truncate_21 : decode cX11_truncate 21 = .ok (.iload_n 2, 1) := by decide +kernel
theorem dX11_truncate_22 : decode cX11_truncate 22 = .ok (.invokevirtual 293, 3) := by decide +kernel
theorem dX11_truncate_25 : decode cX11_truncate 25 = .ok (.ireturn, 1) := by decide +kernel
theorem dX11_release_0 : decode cX11_release 0 = .ok (.aload_n 0, 1) := by decide +kernel
theorem dX11_release_1 : decode cX11_release 1 = .ok (.aload_n 0, 1) := by decide +kernel
theorem dX11_release_2 : decode cX11_release 2 = .ok (.getfield 10, 3) := by decide +kernel
theorem dX11_release_5 : decode cX11_release 5 = .ok (.getfield 137, 3) := by decide +kernel
theorem dX11_release_8 : decode cX11_release 8 = .ok (.iload_n 1, 1) := by decide +kernel
theorem dX11_release_9 : decode cX11_release 9 = .ok (.invokevirtual 296, 3) := by decide +kernel
theorem dX11_release_12 : decode cX11_release 12 = .ok (.invokevirtual 278, 3) := by decide +kernel
theorem dX11_release_15 : decode cX11_release 15 = .ok (.aload_n 0, 1) := by decide +kernel
theorem dX11_release_16 : decode cX11_release 16 = .ok (.getfield 10, 3) := by decide +kernel
theorem dX11_release_19 : decode cX11_release 19 = .ok (.getfield 137, 3) := by decide +kernel
theorem dX11_release_22 : decode cX11_release 22 = .ok (.iload_n 1, 1) := by decide +kernel
theorem dX11_release_23 : decode cX11_release 23 = .ok (.invokevirtual 299, 3) := by decide +kernel
theorem dX11_release_26 : decode cX11_release 26 = .ok (.aload_n 0, 1) := by decide +kernel
theorem dX11_release_27 : decode cX11_release 27 = .ok (.getfield 24, 3) := by decide +kernel
theorem dX11_release_30 : decode cX11_release 30 = .ok (.invokevirtual 210, 3) := by decide +kernel
theorem dX11_release_33 : decode cX11_release 33 = .ok (.ireturn, 1) := by decide +kernel
theorem dX11_collect_0 : decode cX11_collect 0 = .ok (.aload_n 0, 1) := by decide +kernel
theorem dX11_collect_1 : decode cX11_collect 1 = .ok (.iconst 0, 1) := by decide +kernel
theorem dX11_collect_2 : decode cX11_collect 2 = .ok (.invokevirtual 278, 3) := by decide +kernel
theorem dX11_collect_5 : decode cX11_collect 5 = .ok (.aload_n 0, 1) := by decide +kernel
theorem dX11_collect_6 : decode cX11_collect 6 = .ok (.getfield 24, 3) := by decide +kernel
theorem dX11_collect_9 : decode cX11_collect 9 = .ok (.invokevirtual 302, 3) := by decide +kernel
theorem dX11_collect_12 : decode cX11_collect 12 = .ok (.ireturn, 1) := by decide +kernel
theorem dX11_undo_0 : decode cX11_undo 0 = .ok (.aload_n 0, 1) := by decide +kernel
theorem dX11_undo_1 : decode cX11_undo 1 = .ok (.getfield 40, 3) := by decide +kernel
theorem dX11_undo_4 : decode cX11_undo 4 = .ok (.getfield 305, 3) := by decide +kernel
theorem dX11_undo_7 : decode cX11_undo 7 = .ok (.ifCond .ne 14, 3) := by decide +kernel
theorem dX11_undo_10 : decode cX11_undo 10 = .ok (.new 306, 3) := by decide +kernel
theorem dX11_undo_13 : decode cX11_undo 13 = .ok (.dup, 1) := by decide +kernel
theorem dX11_undo_14 : decode cX11_undo 14 = .ok (.ldc_w 308, 3) := by decide +kernel
theorem dX11_undo_17 : decode cX11_undo 17 = .ok (.invokespecial 310, 3) := by decide +kernel
theorem dX11_undo_20 : decode cX11_undo 20 = .ok (.athrow, 1) := by decide +kernel
theorem dX11_undo_21 : decode cX11_undo 21 = .ok (.aload_n 0, 1) := by decide +kernel
theorem dX11_undo_22 : decode cX11_undo 22 = .ok (.getfield 40, 3) := by decide +kernel
theorem dX11_undo_25 : decode cX11_undo 25 = .ok (.aload_n 0, 1) := by decide +kernel
theorem dX11_undo_26 : decode cX11_undo 26 = .ok (.getfield 10, 3) := by decide +kernel
theorem dX11_undo_29 : decode cX11_undo 29 = .ok (.invokevirtual 313, 3) := by decide +kernel
theorem dX11_undo_32 : decode cX11_undo 32 = .ok (.aload_n 0, 1) := by decide +kernel
theorem dX11_undo_33 : decode cX11_undo 33 = .ok (.getfield 40, 3) := by decide +kernel
theorem dX11_undo_36 : decode cX11_undo 36 = .ok (.getfield 305, 3) := by decide +kernel
theorem dX11_undo_39 : decode cX11_undo 39 = .ok (.ireturn, 1) := by decide +kernel
theorem dX11_writeVersion_0 : decode cX11_writeVersion 0 = .ok (.aload_n 0, 1) := by decide +kernel
theorem dX11_writeVersion_1 : decode cX11_writeVersion 1 = .ok (.iload_n 1, 1) := by decide +kernel
theorem dX11_writeVersion_2 : decode cX11_writeVersion 2 = .ok (.invokevirtual 168, 3) := by decide +kernel
theorem dX11_writeVersion_5 : decode cX11_writeVersion 5 = .ok (.aload_n 0, 1) := by decide +kernel
theorem dX11_writeVersion_6 : decode cX11_writeVersion 6 = .ok (.getfield 79, 3) := by decide +kernel
theorem dX11_writeVersion_9 : decode cX11_writeVersion 9 = .ok (.aload_n 0, 1) := by decide +kernel
theorem dX11_writeVersion_10 : decode cX11_writeVersion 10 = .ok (.getfield 10, 3) := by decide +kernel
theorem dX11_writeVersion_13 : decode cX11_writeVersion 13 = .ok (.iload_n 1, 1) := by decide +kernel
theorem dX11_writeVersion_14 : decode cX11_writeVersion 14 = .ok (.invokevirtual 316, 3) := by decide +kernel
theorem dX11_writeVersion_17 : decode cX11_writeVersion 17 = .ok (.aload_n 0, 1) := by decide +kernel
theorem dX11_writeVersion_18 : decode cX11_writeVersion 18 = .ok (.getfield 79, 3) := by decide +kernel
theorem dX11_writeVersion_21 : decode cX11_writeVersion 21 = .ok (.getfield 320, 3) := by decide +kernel
theorem dX11_writeVersion_24 : decode cX11_writeVersion 24 = .ok (.ireturn, 1) := by decide +kernel
theorem dX11_outputByte_0 : decode cX11_outputByte 0 = .ok (.aload_n 0, 1) := by decide +kernel
theorem dX11_outputByte_1 : decode cX11_outputByte 1 = .ok (.getfield 79, 3) := by decide +kernel
theorem dX11_outputByte_4 : decode cX11_outputByte 4 = .ok (.iload_n 1, 1) := by decide +kernel
theorem dX11_outputByte_5 : decode cX11_outputByte 5 = .ok (.invokevirtual 321, 3) := by decide +kernel
theorem dX11_outputByte_8 : decode cX11_outputByte 8 = .ok (.ireturn, 1) := by decide +kernel
theorem dX11_saveState_0 : decode cX11_saveState 0 = .ok (.aload_n 0, 1) := by decide +kernel
theorem dX11_saveState_1 : decode cX11_saveState 1 = .ok (.getfield 16, 3) := by decide +kernel
theorem dX11_saveState_4 : decode cX11_saveState 4 = .ok (.aload_n 0, 1) := by decide +kernel
theorem dX11_saveState_5 : decode cX11_saveState 5 = .ok (.getfield 10, 3) := by decide +kernel
theorem dX11_saveState_8 : decode cX11_saveState 8 = .ok (.invokevirtual 324, 3) := by decide +kernel
theorem dX11_saveState_11 : decode cX11_saveState 11 = .ok (.aload_n 0, 1) := by decide +kernel
theorem dX11_saveState_12 : decode cX11_saveState 12 = .ok (.iconst 1, 1) := by decide +kernel
theorem dX11_saveState_13 : decode cX11_saveState 13 = .ok (.putfield 115, 3) := by decide +kernel
theorem dX11_saveState_16 : decode cX11_saveState 16 = .ok (.aload_n 0, 1) := by decide +kernel
theorem dX11_saveState_17 : decode cX11_saveState 17 = .ok (.getfield 10, 3) := by decide +kernel
theorem dX11_saveState_20 : decode cX11_saveState 20 = .ok (.getfield 137, 3) := by decide +kernel
theorem dX11_saveState_23 : decode cX11_saveState 23 = .ok (.getfield 141, 3) := by decide +kernel
theorem dX11_saveState_26 : decode cX11_saveState 26 = .ok (.ireturn, 1) := by decide +kernel
theorem dX11_restoreState_0 : decode cX11_restoreState 0 = .ok (.aload_n 0, 1) := by decide +kernel
theorem dX11_restoreState_1 : decode cX11_restoreState 1 = .ok (.getfield 115, 3) := by decide +kernel
theorem dX11_restoreState_4 : decode cX11_restoreState 4 = .ok (.ifCond .ne 14, 3) := by decide +kernel
theorem dX11_restoreState_7 : decode cX11_restoreState 7 = .ok (.new 306, 3) := by decide +kernel
theorem dX11_restoreState_10 : decode cX11_restoreState 10 = .ok (.dup, 1) := by decide +kernel
theorem dX11_restoreState_11 : decode cX11_restoreState 11 = .ok (.ldc_w 327, 3) := by decide +kernel
theorem dX11_restoreState_14 : decode cX11_restoreState 14 = .ok (.invokespecial 310, 3) := by decide +kernel
theorem dX11_restoreState_17 : decode cX11_restoreState 17 = .ok (.athrow, 1) := by decide +kernel
theorem dX11_restoreState_18 : decode cX11_restoreState 18 = .ok (.aload_n 0, 1) := by decide +kernel
theorem dX11_restoreState_19 : decode cX11_restoreState 19 = .ok (.getfield 10, 3) := by decide +kernel
theorem dX11_restoreState_22 : decode cX11_restoreState 22 = .ok (.aload_n 0, 1) := by decide +kernel
theorem dX11_restoreState_23 : decode cX11_restoreState 23 = .ok (.getfield 16, 3) := by decide +kernel
theorem dX11_restoreState_26 : decode cX11_restoreState 26 = .ok (.invokevirtual 324, 3) := by decide +kernel
theorem dX11_restoreState_29 : decode cX11_restoreState 29 = .ok (.aload_n 0, 1) := by decide +kernel
theorem dX11_restoreState_30 : decode cX11_restoreState 30 = .ok (.getfield 40, 3) := by decide +kernel
theorem dX11_restoreState_33 : decode cX11_restoreState 33 = .ok (.invokevirtual 112, 3) := by decide +kernel
theorem dX11_restoreState_36 : decode cX11_restoreState 36 = .ok (.aload_n 0, 1) := by decide +kernel
theorem dX11_restoreState_37 : decode cX11_restoreState 37 = .ok (.getfield 10, 3) := by decide +kernel
theorem dX11_restoreState_40 : decode cX11_restoreState 40 = .ok (.getfield 137, 3) := by decide +kernel
theorem dX11_restoreState_43 : decode cX11_restoreState 43 = .ok (.getfield 141, 3) := by decide +kernel
theorem dX11_restoreState_46 : decode cX11_restoreState 46 = .ok (.ireturn, 1) := by decide +kernel
theorem dX11_faultOfStatement_0 : decode cX11_faultOfStatement 0 = .ok (.aload_n 0, 1) := by decide +kernel
theorem dX11_faultOfStatement_1 : decode cX11_faultOfStatement 1 = .ok (.getfield 72, 3) := by decide +kernel
theorem dX11_faultOfStatement_4 : decode cX11_faultOfStatement 4 = .ok (.iload_n 1, 1) := by decide +kernel
theorem dX11_faultOfStatement_5 : decode cX11_faultOfStatement 5 = .ok (.iconst 0, 1) := by decide +kernel
theorem dX11_faultOfStatement_6 : decode cX11_faultOfStatement 6 = .ok (.invokevirtual 329, 3) := by decide +kernel
theorem dX11_faultOfStatement_9 : decode cX11_faultOfStatement 9 = .ok (.istore_n 2, 1) := by decide +kernel
theorem dX11_faultOfStatement_10 : decode cX11_faultOfStatement 10 = .ok (.aload_n 0, 1) := by decide +kernel
theorem dX11_faultOfStatement_11 : decode cX11_faultOfStatement 11 = .ok (.getfield 72, 3) := by decide +kernel
theorem dX11_faultOfStatement_14 : decode cX11_faultOfStatement 14 = .ok (.iload_n 1, 1) := by decide +kernel
theorem dX11_faultOfStatement_15 : decode cX11_faultOfStatement 15 = .ok (.iconst 1, 1) := by decide +kernel
theorem dX11_faultOfStatement_16 : decode cX11_faultOfStatement 16 = .ok (.invokevirtual 329, 3) := by decide +kernel
theorem dX11_faultOfStatement_19 : decode cX11_faultOfStatement 19 = .ok (.istore_n 3, 1) := by decide +kernel
theorem dX11_faultOfStatement_20 : decode cX11_faultOfStatement 20 = .ok (.aload_n 0, 1) := by decide +kernel
theorem dX11_faultOfStatement_21 : decode cX11_faultOfStatement 21 = .ok (.getfield 72, 3) := by decide +kernel
theorem dX11_faultOfStatement_24 : decode cX11_faultOfStatement 24 = .ok (.iload_n 1, 1) := by decide +kernel
theorem dX11_faultOfStatement_25 : decode cX11_faultOfStatement 25 = .ok (.invokevirtual 332, 3) := by decide +kernel
theorem dX11_faultOfStatement_28 : decode cX11_faultOfStatement 28 = .ok (.tableswitch 92 3 6 #[32, 54, 67, 80], 32) := by decide +kernel
theorem dX11_faultOfStatement_60 : decode cX11_faultOfStatement 60 = .ok (.aload_n 0, 1) := by decide +kernel
theorem dX11_faultOfStatement_61 : decode cX11_faultOfStatement 61 = .ok (.getfield 10, 3) := by decide +kernel
theorem dX11_faultOfStatement_64 : decode cX11_faultOfStatement 64 = .ok (.getfield 137, 3) := by decide +kernel
theorem dX11_faultOfStatement_67 : decode cX11_faultOfStatement 67 = .ok (.iload_n 2, 1) := by decide +kernel
theorem dX11_faultOfStatement_68 : decode cX11_faultOfStatement 68 = .ok (.iload_n 3, 1) := by decide +kernel
theorem dX11_faultOfStatement_69 : decode cX11_faultOfStatement 69 = .ok (.aload_n 0, 1) := by decide +kernel
theorem dX11_faultOfStatement_70 : decode cX11_faultOfStatement 70 = .ok (.getfield 72, 3) := by decide +kernel
theorem dX11_faultOfStatement_73 : decode cX11_faultOfStatement 73 = .ok (.iload_n 1, 1) := by decide +kernel
theorem dX11_faultOfStatement_74 : decode cX11_faultOfStatement 74 = .ok (.iconst 2, 1) := by decide +kernel
theorem dX11_faultOfStatement_75 : decode cX11_faultOfStatement 75 = .ok (.invokevirtual 329, 3) := by decide +kernel
theorem dX11_faultOfStatement_78 : decode cX11_faultOfStatement 78 = .ok (.invokevirtual 275, 3) := by decide +kernel
theorem dX11_faultOfStatement_81 : decode cX11_faultOfStatement 81 = .ok (.ireturn, 1) := by decide +kernel
theorem dX11_faultOfStatement_82 : decode cX11_faultOfStatement 82 = .ok (.aload_n 0, 1) := by decide +kernel
theorem dX11_faultOfStatement_83 : decode cX11_faultOfStatement 83 = .ok (.getfield 10, 3) := by decide +kernel
theorem dX11_faultOfStatement_86 : decode cX11_faultOfStatement 86 = .ok (.getfield 137, 3) := by decide +kernel
theorem dX11_faultOfStatement_89 : decode cX11_faultOfStatement 89 = .ok (.iload_n 2, 1) := by decide +kernel
theorem dX11_faultOfStatement_90 : decode cX11_faultOfStatement 90 = .ok (.iload_n 3, 1) := by decide +kernel
theorem dX11_faultOfStatement_91 : decode cX11_faultOfStatement 91 = .ok (.invokevirtual 284, 3) := by decide +kernel
theorem dX11_faultOfStatement_94 : decode cX11_faultOfStatement 94 = .ok (.ireturn, 1) := by decide +kernel
theorem dX11_faultOfStatement_95 : decode cX11_faultOfStatement 95 = .ok (.aload_n 0, 1) := by decide +kernel
theorem dX11_faultOfStatement_96 : decode cX11_faultOfStatement 96 = .ok (.getfield 10, 3) := by decide +kernel
theorem dX11_faultOfStatement_99 : decode cX11_faultOfStatement 99 = .ok (.getfield 137, 3) := by decide +kernel
theorem dX11_faultOfStatement_102 : decode cX11_faultOfStatement 102 = .ok (.iload_n 2, 1) := by decide +kernel
theorem dX11_faultOfStatement_103 : decode cX11_faultOfStatement 103 = .ok (.iload_n 3, 1) := by decide +kernel
theorem dX11_faultOfStatement_104 : decode cX11_faultOfStatement 104 = .ok (.invokevirtual 290, 3) := by decide +kernel
theorem dX11_faultOfStatement_107 : decode cX11_faultOfStatement 107 = .ok (.ireturn, 1) := by decide +kernel
theorem dX11_faultOfStatement_108 : decode cX11_faultOfStatement 108 = .ok (.aload_n 0, 1) := by decide +kernel
theorem dX11_faultOfStatement_109 : decode cX11_faultOfStatement 109 = .ok (.getfield 10, 3) := by decide +kernel
theorem dX11_faultOfStatement_112 : decode cX11_faultOfStatement 112 = .ok (.getfield 137, 3) := by decide +kernel
theorem dX11_faultOfStatement_115 : decode cX11_faultOfStatement 115 = .ok (.iload_n 2, 1) := by decide +kernel
theorem dX11_faultOfStatement_116 : decode cX11_faultOfStatement 116 = .ok (.invokevirtual 296, 3) := by decide +kernel
theorem dX11_faultOfStatement_119 : decode cX11_faultOfStatement 119 = .ok (.ireturn, 1) := by decide +kernel
theorem dX11_faultOfStatement_120 : decode cX11_faultOfStatement 120 = .ok (.iconst 0, 1) := by decide +kernel
theorem dX11_faultOfStatement_121 : decode cX11_faultOfStatement 121 = .ok (.ireturn, 1) := by decide +kernel
theorem dX11_perform_0 : decode cX11_perform 0 = .ok (.aload_n 0, 1) := by decide +kernel
theorem dX11_perform_1 : decode cX11_perform 1 = .ok (.getfield 72, 3) := by decide +kernel
theorem dX11_perform_4 : decode cX11_perform 4 = .ok (.iload_n 1, 1) := by decide +kernel
theorem dX11_perform_5 : decode cX11_perform 5 = .ok (.iconst 0, 1) := by decide +kernel
theorem dX11_perform_6 : decode cX11_perform 6 = .ok (.invokevirtual 329, 3) := by decide +kernel
theorem dX11_perform_9 : decode cX11_perform 9 = .ok (.istore_n 2, 1) := by decide +kernel
theorem dX11_perform_10 : decode cX11_perform 10 = .ok (.aload_n 0, 1) := by decide +kernel
theorem dX11_perform_11 : decode cX11_perform 11 = .ok (.getfield 72, 3) := by decide +kernel
theorem dX11_perform_14 : decode cX11_perform 14 = .ok (.iload_n 1, 1) := by decide +kernel
theorem dX11_perform_15 : decode cX11_perform 15 = .ok (.iconst 1, 1) := by decide +kernel
theorem dX11_perform_16 : decode cX11_perform 16 = .ok (.invokevirtual 329, 3) := by decide +kernel
theorem dX11_perform_19 : decode cX11_perform 19 = .ok (.istore_n 3, 1) := by decide +kernel
theorem dX11_perform_20 : decode cX11_perform 20 = .ok (.aload_n 0, 1) := by decide +kernel
theorem dX11_perform_21 : decode cX11_perform 21 = .ok (.getfield 72, 3) := by decide +kernel
theorem dX11_perform_24 : decode cX11_perform 24 = .ok (.iload_n 1, 1) := by decide +kernel
theorem dX11_perform_25 : decode cX11_perform 25 = .ok (.invokevirtual 332, 3) := by decide +kernel
theorem dX11_perform_28 : decode cX11_perform 28 = .ok (.tableswitch 94 3 6 #[32, 54, 67, 80], 32) := by decide +kernel
theorem dX11_perform_60 : decode cX11_perform 60 = .ok (.aload_n 0, 1) := by decide +kernel
theorem dX11_perform_61 : decode cX11_perform 61 = .ok (.getfield 10, 3) := by decide +kernel
theorem dX11_perform_64 : decode cX11_perform 64 = .ok (.iload_n 2, 1) := by decide +kernel
theorem dX11_perform_65 : decode cX11_perform 65 = .ok (.iload_n 3, 1) := by decide +kernel
theorem dX11_perform_66 : decode cX11_perform 66 = .ok (.aload_n 0, 1) := by decide +kernel
theorem dX11_perform_67 : decode cX11_perform 67 = .ok (.getfield 72, 3) := by decide +kernel
theorem dX11_perform_70 : decode cX11_perform 70 = .ok (.iload_n 1, 1) := by decide +kernel
theorem dX11_perform_71 : decode cX11_perform 71 = .ok (.iconst 2, 1) := by decide +kernel
theorem dX11_perform_72 : decode cX11_perform 72 = .ok (.invokevirtual 329, 3) := by decide +kernel
theorem dX11_perform_75 : decode cX11_perform 75 = .ok (.invokevirtual 281, 3) := by decide +kernel
theorem dX11_perform_78 : decode cX11_perform 78 = .ok (.pop, 1) := by decide +kernel
theorem dX11_perform_79 : decode cX11_perform 79 = .ok (.goto 51, 3) := by decide +kernel
theorem dX11_perform_82 : decode cX11_perform 82 = .ok (.aload_n 0, 1) := by decide +kernel
theorem dX11_perform_83 : decode cX11_perform 83 = .ok (.getfield 10, 3) := by decide +kernel
theorem dX11_perform_86 : decode cX11_perform 86 = .ok (.iload_n 2, 1) := by decide +kernel
theorem dX11_perform_87 : decode cX11_perform 87 = .ok (.iload_n 3, 1) := by decide +kernel
theorem dX11_perform_88 : decode cX11_perform 88 = .ok (.invokevirtual 287, 3) := by decide +kernel
theorem dX11_perform_91 : decode cX11_perform 91 = .ok (.pop, 1) := by decide +kernel
theorem dX11_perform_92 : decode cX11_perform 92 = .ok (.goto 38, 3) := by decide +kernel
theorem dX11_perform_95 : decode cX11_perform 95 = .ok (.aload_n 0, 1) := by decide +kernel
theorem dX11_perform_96 : decode cX11_perform 96 = .ok (.getfield 10, 3) := by decide +kernel
theorem dX11_perform_99 : decode cX11_perform 99 = .ok (.iload_n 2, 1) := by decide +kernel
theorem dX11_perform_100 : decode cX11_perform 100 = .ok (.iload_n 3, 1) := by decide +kernel
theorem dX11_perform_101 : decode cX11_perform 101 = .ok (.invokevirtual 293, 3) := by decide +kernel
theorem dX11_perform_104 : decode cX11_perform 104 = .ok (.pop, 1) := by decide +kernel
theorem dX11_perform_105 : decode cX11_perform 105 = .ok (.goto 25, 3) := by decide +kernel
theorem dX11_perform_108 : decode cX11_perform 108 = .ok (.aload_n 0, 1) := by decide +kernel
theorem dX11_perform_109 : decode cX11_perform 109 = .ok (.getfield 10, 3) := by decide +kernel
theorem dX11_perform_112 : decode cX11_perform 112 = .ok (.getfield 137, 3) := by decide +kernel
theorem dX11_perform_115 : decode cX11_perform 115 = .ok (.iload_n 2, 1) := by decide +kernel
theorem dX11_perform_116 : decode cX11_perform 116 = .ok (.invokevirtual 299, 3) := by decide +kernel
theorem dX11_perform_119 : decode cX11_perform 119 = .ok (.goto 11, 3) := by decide +kernel
theorem dX11_perform_122 : decode cX11_perform 122 = .ok (.aload_n 0, 1) := by decide +kernel
theorem dX11_perform_123 : decode cX11_perform 123 = .ok (.getfield 24, 3) := by decide +kernel
theorem dX11_perform_126 : decode cX11_perform 126 = .ok (.invokevirtual 302, 3) := by decide +kernel
theorem dX11_perform_129 : decode cX11_perform 129 = .ok (.pop, 1) := by decide +kernel
theorem dX11_perform_130 : decode cX11_perform 130 = .ok (.return_, 1) := by decide +kernel
theorem dX11_refuse_0 : decode cX11_refuse 0 = .ok (.iload_n 0, 1) := by decide +kernel
theorem dX11_refuse_1 : decode cX11_refuse 1 = .ok (.tableswitch 60 1 3 #[27, 38, 49], 27) := by decide +kernel
theorem dX11_refuse_28 : decode cX11_refuse 28 = .ok (.new 335, 3) := by decide +kernel
theorem dX11_refuse_31 : decode cX11_refuse 31 = .ok (.dup, 1) := by decide +kernel
theorem dX11_refuse_32 : decode cX11_refuse 32 = .ok (.ldc_w 337, 3) := by decide +kernel
theorem dX11_refuse_35 : decode cX11_refuse 35 = .ok (.invokespecial 339, 3) := by decide +kernel
theorem dX11_refuse_38 : decode cX11_refuse 38 = .ok (.athrow, 1) := by decide +kernel
theorem dX11_refuse_39 : decode cX11_refuse 39 = .ok (.new 340, 3) := by decide +kernel
theorem dX11_refuse_42 : decode cX11_refuse 42 = .ok (.dup, 1) := by decide +kernel
theorem dX11_refuse_43 : decode cX11_refuse 43 = .ok (.ldc_w 342, 3) := by decide +kernel
theorem dX11_refuse_46 : decode cX11_refuse 46 = .ok (.invokespecial 344, 3) := by decide +kernel
theorem dX11_refuse_49 : decode cX11_refuse 49 = .ok (.athrow, 1) := by decide +kernel
theorem dX11_refuse_50 : decode cX11_refuse 50 = .ok (.new 345, 3) := by decide +kernel
theorem dX11_refuse_53 : decode cX11_refuse 53 = .ok (.dup, 1) := by decide +kernel
theorem dX11_refuse_54 : decode cX11_refuse 54 = .ok (.ldc_w 347, 3) := by decide +kernel
theorem dX11_refuse_57 : decode cX11_refuse 57 = .ok (.invokespecial 349, 3) := by decide +kernel
theorem dX11_refuse_60 : decode cX11_refuse 60 = .ok (.athrow, 1) := by decide +kernel
theorem dX11_refuse_61 : decode cX11_refuse 61 = .ok (.return_, 1) := by decide +kernel
theorem dX11_beginChange_0 : decode cX11_beginChange 0 = .ok (.iload_n 1, 1) := by decide +kernel
theorem dX11_beginChange_1 : decode cX11_beginChange 1 = .ok (.invokestatic 183, 3) := by decide +kernel
theorem dX11_beginChange_4 : decode cX11_beginChange 4 = .ok (.aload_n 0, 1) := by decide +kernel
theorem dX11_beginChange_5 : decode cX11_beginChange 5 = .ok (.getfield 40, 3) := by decide +kernel
theorem dX11_beginChange_8 : decode cX11_beginChange 8 = .ok (.aload_n 0, 1) := by decide +kernel
theorem dX11_beginChange_9 : decode cX11_beginChange 9 = .ok (.getfield 10, 3) := by decide +kernel
theorem dX11_beginChange_12 : decode cX11_beginChange 12 = .ok (.invokevirtual 120, 3) := by decide +kernel
theorem dX11_beginChange_15 : decode cX11_beginChange 15 = .ok (.return_, 1) := by decide +kernel
theorem dX11_requireVersion_0 : decode cX11_requireVersion 0 = .ok (.aload_n 0, 1) := by decide +kernel
theorem dX11_requireVersion_1 : decode cX11_requireVersion 1 = .ok (.getfield 10, 3) := by decide +kernel
theorem dX11_requireVersion_4 : decode cX11_requireVersion 4 = .ok (.getfield 137, 3) := by decide +kernel
theorem dX11_requireVersion_7 : decode cX11_requireVersion 7 = .ok (.iload_n 1, 1) := by decide +kernel
theorem dX11_requireVersion_8 : decode cX11_requireVersion 8 = .ok (.invokevirtual 350, 3) := by decide +kernel
theorem dX11_requireVersion_11 : decode cX11_requireVersion 11 = .ok (.ifCond .eq 7, 3) := by decide +kernel
theorem dX11_requireVersion_14 : decode cX11_requireVersion 14 = .ok (.iconst 0, 1) := by decide +kernel
theorem dX11_requireVersion_15 : decode cX11_requireVersion 15 = .ok (.goto 4, 3) := by decide +kernel
theorem dX11_requireVersion_18 : decode cX11_requireVersion 18 = .ok (.iconst 1, 1) := by decide +kernel
theorem dX11_requireVersion_19 : decode cX11_requireVersion 19 = .ok (.invokestatic 183, 3) := by decide +kernel
theorem dX11_requireVersion_22 : decode cX11_requireVersion 22 = .ok (.return_, 1) := by decide +kernel
theorem dX11_requireReadable_0 : decode cX11_requireReadable 0 = .ok (.aload_n 0, 1) := by decide +kernel
theorem dX11_requireReadable_1 : decode cX11_requireReadable 1 = .ok (.getfield 10, 3) := by decide +kernel
theorem dX11_requireReadable_4 : decode cX11_requireReadable 4 = .ok (.getfield 137, 3) := by decide +kernel
theorem dX11_requireReadable_7 : decode cX11_requireReadable 7 = .ok (.iload_n 1, 1) := by decide +kernel
theorem dX11_requireReadable_8 : decode cX11_requireReadable 8 = .ok (.invokevirtual 296, 3) := by decide +kernel
theorem dX11_requireReadable_11 : decode cX11_requireReadable 11 = .ok (.invokestatic 183, 3) := by decide +kernel
theorem dX11_requireReadable_14 : decode cX11_requireReadable 14 = .ok (.return_, 1) := by decide +kernel
theorem dX11_requireBothReadable_0 : decode cX11_requireBothReadable 0 = .ok (.aload_n 0, 1) := by decide +kernel
theorem dX11_requireBothReadable_1 : decode cX11_requireBothReadable 1 = .ok (.getfield 10, 3) := by decide +kernel
theorem dX11_requireBothReadable_4 : decode cX11_requireBothReadable 4 = .ok (.getfield 137, 3) := by decide +kernel
theorem dX11_requireBothReadable_7 : decode cX11_requireBothReadable 7 = .ok (.iload_n 1, 1) := by decide +kernel
theorem dX11_requireBothReadable_8 : decode cX11_requireBothReadable 8 = .ok (.iload_n 2, 1) := by decide +kernel
theorem dX11_requireBothReadable_9 : decode cX11_requireBothReadable 9 = .ok (.invokevirtual 353, 3) := by decide +kernel
theorem dX11_requireBothReadable_12 : decode cX11_requireBothReadable 12 = .ok (.invokestatic 183, 3) := by decide +kernel
theorem dX11_requireBothReadable_15 : decode cX11_requireBothReadable 15 = .ok (.return_, 1) := by decide +kernel
theorem dX11_requireNode_0 : decode cX11_requireNode 0 = .ok (.aload_n 0, 1) := by decide +kernel
theorem dX11_requireNode_1 : decode cX11_requireNode 1 = .ok (.getfield 10, 3) := by decide +kernel
theorem dX11_requireNode_4 : decode cX11_requireNode 4 = .ok (.getfield 198, 3) := by decide +kernel
theorem dX11_requireNode_7 : decode cX11_requireNode 7 = .ok (.iload_n 1, 1) := by decide +kernel
theorem dX11_requireNode_8 : decode cX11_requireNode 8 = .ok (.invokevirtual 356, 3) := by decide +kernel
theorem dX11_requireNode_11 : decode cX11_requireNode 11 = .ok (.ifCond .eq 7, 3) := by decide +kernel
theorem dX11_requireNode_14 : decode cX11_requireNode 14 = .ok (.iconst 0, 1) := by decide +kernel
theorem dX11_requireNode_15 : decode cX11_requireNode 15 = .ok (.goto 4, 3) := by decide +kernel
theorem dX11_requireNode_18 : decode cX11_requireNode 18 = .ok (.iconst 1, 1) := by decide +kernel
theorem dX11_requireNode_19 : decode cX11_requireNode 19 = .ok (.invokestatic 183, 3) := by decide +kernel
theorem dX11_requireNode_22 : decode cX11_requireNode 22 = .ok (.return_, 1) := by decide +kernel
theorem dX11_capacity_0 : decode cX11_capacity 0 = .ok (.iconst 1, 1) := by decide +kernel
theorem dX11_capacity_1 : decode cX11_capacity 1 = .ok (.iconst 2, 1) := by decide +kernel
theorem dX11_capacity_2 : decode cX11_capacity 2 = .ok (.iload_n 0, 1) := by decide +kernel
theorem dX11_capacity_3 : decode cX11_capacity 3 = .ok (.imul, 1) := by decide +kernel
theorem dX11_capacity_4 : decode cX11_capacity 4 = .ok (.ishl, 1) := by decide +kernel
theorem dX11_capacity_5 : decode cX11_capacity 5 = .ok (.ireturn, 1) := by decide +kernel
theorem dX11_positionIn_0 : decode cX11_positionIn 0 = .ok (.iload_n 1, 1) := by decide +kernel
theorem dX11_positionIn_1 : decode cX11_positionIn 1 = .ok (.iconst 2, 1) := by decide +kernel
theorem dX11_positionIn_2 : decode cX11_positionIn 2 = .ok (.iload_n 0, 1) := by decide +kernel
theorem dX11_positionIn_3 : decode cX11_positionIn 3 = .ok (.iconst 1, 1) := by decide +kernel
theorem dX11_positionIn_4 : decode cX11_positionIn 4 = .ok (.isub, 1) := by decide +kernel
theorem dX11_positionIn_5 : decode cX11_positionIn 5 = .ok (.imul, 1) := by decide +kernel
theorem dX11_positionIn_6 : decode cX11_positionIn 6 = .ok (.ishr, 1) := by decide +kernel
theorem dX11_positionIn_7 : decode cX11_positionIn 7 = .ok (.iconst 3, 1) := by decide +kernel
theorem dX11_positionIn_8 : decode cX11_positionIn 8 = .ok (.iand, 1) := by decide +kernel
theorem dX11_positionIn_9 : decode cX11_positionIn 9 = .ok (.ireturn, 1) := by decide +kernel
theorem dX11_heightFor_0 : decode cX11_heightFor 0 = .ok (.iload_n 0, 1) := by decide +kernel
theorem dX11_heightFor_1 : decode cX11_heightFor 1 = .ok (.ifCond .gt 5, 3) := by decide +kernel
theorem dX11_heightFor_4 : decode cX11_heightFor 4 = .ok (.iconst 0, 1) := by decide +kernel
theorem dX11_heightFor_5 : decode cX11_heightFor 5 = .ok (.ireturn, 1) := by decide +kernel
theorem dX11_heightFor_6 : decode cX11_heightFor 6 = .ok (.iload_n 0, 1) := by decide +kernel
theorem dX11_heightFor_7 : decode cX11_heightFor 7 = .ok (.iconst 1, 1) := by decide +kernel
theorem dX11_heightFor_8 : decode cX11_heightFor 8 = .ok (.invokestatic 359, 3) := by decide +kernel
theorem dX11_heightFor_11 : decode cX11_heightFor 11 = .ok (.if_icmp .gt 5, 3) := by decide +kernel
theorem dX11_heightFor_14 : decode cX11_heightFor 14 = .ok (.iconst 1, 1) := by decide +kernel
theorem dX11_heightFor_15 : decode cX11_heightFor 15 = .ok (.ireturn, 1) := by decide +kernel
theorem dX11_heightFor_16 : decode cX11_heightFor 16 = .ok (.iload_n 0, 1) := by decide +kernel
theorem dX11_heightFor_17 : decode cX11_heightFor 17 = .ok (.iconst 2, 1) := by decide +kernel
theorem dX11_heightFor_18 : decode cX11_heightFor 18 = .ok (.invokestatic 359, 3) := by decide +kernel
theorem dX11_heightFor_21 : decode cX11_heightFor 21 = .ok (.if_icmp .gt 7, 3) := by decide +kernel
theorem dX11_heightFor_24 : decode cX11_heightFor 24 = .ok (.iconst 2, 1) := by decide +kernel
theorem dX11_heightFor_25 : decode cX11_heightFor 25 = .ok (.goto 4, 3) := by decide +kernel
theorem dX11_heightFor_28 : decode cX11_heightFor 28 = .ok (.iconst 3, 1) := by decide +kernel
theorem dX11_heightFor_29 : decode cX11_heightFor 29 = .ok (.ireturn, 1) := by decide +kernel
theorem dX11_isElementValue_0 : decode cX11_isElementValue 0 = .ok (.iload_n 0, 1) := by decide +kernel
theorem dX11_isElementValue_1 : decode cX11_isElementValue 1 = .ok (.sipush (-999), 3) := by decide +kernel
theorem dX11_isElementValue_4 : decode cX11_isElementValue 4 = .ok (.if_icmp .lt 14, 3) := by decide +kernel
theorem dX11_isElementValue_7 : decode cX11_isElementValue 7 = .ok (.iload_n 0, 1) := by decide +kernel
theorem dX11_isElementValue_8 : decode cX11_isElementValue 8 = .ok (.sipush 999, 3) := by decide +kernel
theorem dX11_isElementValue_11 : decode cX11_isElementValue 11 = .ok (.if_icmp .gt 7, 3) := by decide +kernel
theorem dX11_isElementValue_14 : decode cX11_isElementValue 14 = .ok (.iconst 1, 1) := by decide +kernel
theorem dX11_isElementValue_15 : decode cX11_isElementValue 15 = .ok (.goto 4, 3) := by decide +kernel
theorem dX11_isElementValue_18 : decode cX11_isElementValue 18 = .ok (.iconst 0, 1) := by decide +kernel
theorem dX11_isElementValue_19 : decode cX11_isElementValue 19 = .ok (.ireturn, 1) := by decide +kernel
theorem dX11_at_0 : decode cX11_at 0 = .ok (.iload_n 1, 1) := by decide +kernel
theorem dX11_at_1 : decode cX11_at 1 = .ok (.ifCond .lt 15, 3) := by decide +kernel
theorem dX11_at_4 : decode cX11_at 4 = .ok (.iload_n 1, 1) := by decide +kernel
theorem dX11_at_5 : decode cX11_at 5 = .ok (.aload_n 0, 1) := by decide +kernel
theorem dX11_at_6 : decode cX11_at 6 = .ok (.arraylength, 1) := by decide +kernel
theorem dX11_at_7 : decode cX11_at 7 = .ok (.if_icmp .ge 9, 3) := by decide +kernel
theorem dX11_at_10 : decode cX11_at 10 = .ok (.aload_n 0, 1) := by decide +kernel
theorem dX11_at_11 : decode cX11_at 11 = .ok (.iload_n 1, 1) := by decide +kernel
theorem dX11_at_12 : decode cX11_at 12 = .ok (.iaload, 1) := by decide +kernel
theorem dX11_at_13 : decode cX11_at 13 = .ok (.goto 4, 3) := by decide +kernel
theorem dX11_at_16 : decode cX11_at 16 = .ok (.iconst (-1), 1) := by decide +kernel
theorem dX11_at_17 : decode cX11_at 17 = .ok (.ireturn, 1) := by decide +kernel
theorem dX11_put_0 : decode cX11_put 0 = .ok (.iload_n 1, 1) := by decide +kernel
theorem dX11_put_1 : decode cX11_put 1 = .ok (.ifCond .lt 13, 3) := by decide +kernel
theorem dX11_put_4 : decode cX11_put 4 = .ok (.iload_n 1, 1) := by decide +kernel
theorem dX11_put_5 : decode cX11_put 5 = .ok (.aload_n 0, 1) := by decide +kernel
theorem dX11_put_6 : decode cX11_put 6 = .ok (.arraylength, 1) := by decide +kernel
theorem dX11_put_7 : decode cX11_put 7 = .ok (.if_icmp .ge 7, 3) := by decide +kernel
theorem dX11_put_10 : decode cX11_put 10 = .ok (.aload_n 0, 1) := by decide +kernel
theorem dX11_put_11 : decode cX11_put 11 = .ok (.iload_n 1, 1) := by decide +kernel
theorem dX11_put_12 : decode cX11_put 12 = .ok (.iload_n 2, 1) := by decide +kernel
theorem dX11_put_13 : decode cX11_put 13 = .ok (.iastore, 1) := by decide +kernel
theorem dX11_put_14 : decode cX11_put 14 = .ok (.return_, 1) := by decide +kernel
theorem dX11_flagAt_0 : decode cX11_flagAt 0 = .ok (.iload_n 1, 1) := by decide +kernel
theorem dX11_flagAt_1 : decode cX11_flagAt 1 = .ok (.ifCond .lt 19, 3) := by decide +kernel
theorem dX11_flagAt_4 : decode cX11_flagAt 4 = .ok (.iload_n 1, 1) := by decide +kernel
theorem dX11_flagAt_5 : decode cX11_flagAt 5 = .ok (.aload_n 0, 1) := by decide +kernel
theorem dX11_flagAt_6 : decode cX11_flagAt 6 = .ok (.arraylength, 1) := by decide +kernel
theorem dX11_flagAt_7 : decode cX11_flagAt 7 = .ok (.if_icmp .ge 13, 3) := by decide +kernel
theorem dX11_flagAt_10 : decode cX11_flagAt 10 = .ok (.aload_n 0, 1) := by decide +kernel
theorem dX11_flagAt_11 : decode cX11_flagAt 11 = .ok (.iload_n 1, 1) := by decide +kernel
theorem dX11_flagAt_12 : decode cX11_flagAt 12 = .ok (.baload, 1) := by decide +kernel
theorem dX11_flagAt_13 : decode cX11_flagAt 13 = .ok (.ifCond .eq 7, 3) := by decide +kernel
theorem dX11_flagAt_16 : decode cX11_flagAt 16 = .ok (.iconst 1, 1) := by decide +kernel
theorem dX11_flagAt_17 : decode cX11_flagAt 17 = .ok (.goto 4, 3) := by decide +kernel
theorem dX11_flagAt_20 : decode cX11_flagAt 20 = .ok (.iconst 0, 1) := by decide +kernel
theorem dX11_flagAt_21 : decode cX11_flagAt 21 = .ok (.ireturn, 1) := by decide +kernel
theorem dX11_putFlag_0 : decode cX11_putFlag 0 = .ok (.iload_n 1, 1) := by decide +kernel
theorem dX11_putFlag_1 : decode cX11_putFlag 1 = .ok (.ifCond .lt 13, 3) := by decide +kernel
theorem dX11_putFlag_4 : decode cX11_putFlag 4 = .ok (.iload_n 1, 1) := by decide +kernel
theorem dX11_putFlag_5 : decode cX11_putFlag 5 = .ok (.aload_n 0, 1) := by decide +kernel
theorem dX11_putFlag_6 : decode cX11_putFlag 6 = .ok (.arraylength, 1) := by decide +kernel
theorem dX11_putFlag_7 : decode cX11_putFlag 7 = .ok (.if_icmp .ge 7, 3) := by decide +kernel
theorem dX11_putFlag_10 : decode cX11_putFlag 10 = .ok (.aload_n 0, 1) := by decide +kernel
theorem dX11_putFlag_11 : decode cX11_putFlag 11 = .ok (.iload_n 1, 1) := by decide +kernel
theorem dX11_putFlag_12 : decode cX11_putFlag 12 = .ok (.iload_n 2, 1) := by decide +kernel
theorem dX11_putFlag_13 : decode cX11_putFlag 13 = .ok (.bastore, 1) := by decide +kernel
theorem dX11_putFlag_14 : decode cX11_putFlag 14 = .ok (.return_, 1) := by decide +kernel
theorem dX11_copyRow_0 : decode cX11_copyRow 0 = .ok (.iconst 0, 1) := by decide +kernel
theorem dX11_copyRow_1 : decode cX11_copyRow 1 = .ok (.istore_n 2, 1) := by decide +kernel
theorem dX11_copyRow_2 : decode cX11_copyRow 2 = .ok (.iload_n 2, 1) := by decide +kernel
theorem dX11_copyRow_3 : decode cX11_copyRow 3 = .ok (.aload_n 0, 1) := by decide +kernel
theorem dX11_copyRow_4 : decode cX11_copyRow 4 = .ok (.arraylength, 1) := by decide +kernel
theorem dX11_copyRow_5 : decode cX11_copyRow 5 = .ok (.if_icmp .ge 21, 3) := by decide +kernel
theorem dX11_copyRow_8 : decode cX11_copyRow 8 = .ok (.iload_n 2, 1) := by decide +kernel
theorem dX11_copyRow_9 : decode cX11_copyRow 9 = .ok (.aload_n 1, 1) := by decide +kernel
theorem dX11_copyRow_10 : decode cX11_copyRow 10 = .ok (.arraylength, 1) := by decide +kernel
theorem dX11_copyRow_11 : decode cX11_copyRow 11 = .ok (.if_icmp .ge 15, 3) := by decide +kernel
theorem dX11_copyRow_14 : decode cX11_copyRow 14 = .ok (.aload_n 1, 1) := by decide +kernel
theorem dX11_copyRow_15 : decode cX11_copyRow 15 = .ok (.iload_n 2, 1) := by decide +kernel
theorem dX11_copyRow_16 : decode cX11_copyRow 16 = .ok (.aload_n 0, 1) := by decide +kernel
theorem dX11_copyRow_17 : decode cX11_copyRow 17 = .ok (.iload_n 2, 1) := by decide +kernel
theorem dX11_copyRow_18 : decode cX11_copyRow 18 = .ok (.iaload, 1) := by decide +kernel
theorem dX11_copyRow_19 : decode cX11_copyRow 19 = .ok (.iastore, 1) := by decide +kernel
theorem dX11_copyRow_20 : decode cX11_copyRow 20 = .ok (.iinc 2 1, 3) := by decide +kernel
theorem dX11_copyRow_23 : decode cX11_copyRow 23 = .ok (.goto (-21), 3) := by decide +kernel
theorem dX11_copyRow_26 : decode cX11_copyRow 26 = .ok (.return_, 1) := by decide +kernel
theorem dX11_copyFlags_0 : decode cX11_copyFlags 0 = .ok (.iconst 0, 1) := by decide +kernel
theorem dX11_copyFlags_1 : decode cX11_copyFlags 1 = .ok (.istore 5, 2) := by decide +kernel
theorem dX11_copyFlags_3 : decode cX11_copyFlags 3 = .ok (.iload 5, 2) := by decide +kernel
theorem dX11_copyFlags_5 : decode cX11_copyFlags 5 = .ok (.iload 4, 2) := by decide +kernel
theorem dX11_copyFlags_7 : decode cX11_copyFlags 7 = .ok (.if_icmp .ge 25, 3) := by decide +kernel
theorem dX11_copyFlags_10 : decode cX11_copyFlags 10 = .ok (.aload_n 2, 1) := by decide +kernel
theorem dX11_copyFlags_11 : decode cX11_copyFlags 11 = .ok (.iload_n 3, 1) := by decide +kernel
theorem dX11_copyFlags_12 : decode cX11_copyFlags 12 = .ok (.iload 5, 2) := by decide +kernel
theorem dX11_copyFlags_14 : decode cX11_copyFlags 14 = .ok (.iadd, 1) := by decide +kernel
theorem dX11_copyFlags_15 : decode cX11_copyFlags 15 = .ok (.aload_n 0, 1) := by decide +kernel
theorem dX11_copyFlags_16 : decode cX11_copyFlags 16 = .ok (.iload_n 1, 1) := by decide +kernel
theorem dX11_copyFlags_17 : decode cX11_copyFlags 17 = .ok (.iload 5, 2) := by decide +kernel
theorem dX11_copyFlags_19 : decode cX11_copyFlags 19 = .ok (.iadd, 1) := by decide +kernel
theorem dX11_copyFlags_20 : decode cX11_copyFlags 20 = .ok (.invokestatic 362, 3) := by decide +kernel
theorem dX11_copyFlags_23 : decode cX11_copyFlags 23 = .ok (.invokestatic 366, 3) := by decide +kernel
theorem dX11_copyFlags_26 : decode cX11_copyFlags 26 = .ok (.iinc 5 1, 3) := by decide +kernel
theorem dX11_copyFlags_29 : decode cX11_copyFlags 29 = .ok (.goto (-26), 3) := by decide +kernel
theorem dX11_copyFlags_32 : decode cX11_copyFlags 32 = .ok (.return_, 1) := by decide +kernel
theorem dX12_init_0 : decode cX12_init 0 = .ok (.aload_n 0, 1) := by decide +kernel
theorem dX12_init_1 : decode cX12_init 1 = .ok (.invokespecial 3, 3) := by decide +kernel
theorem dX12_init_4 : decode cX12_init 4 = .ok (.aload_n 0, 1) := by decide +kernel
theorem dX12_init_5 : decode cX12_init 5 = .ok (.sipush 4210, 3) := by decide +kernel
theorem dX12_init_8 : decode cX12_init 8 = .ok (.newarray .int, 2) := by decide +kernel
theorem dX12_init_10 : decode cX12_init 10 = .ok (.putfield 9, 3) := by decide +kernel
theorem dX12_init_13 : decode cX12_init 13 = .ok (.aload_n 0, 1) := by decide +kernel
theorem dX12_init_14 : decode cX12_init 14 = .ok (.sipush 4210, 3) := by decide +kernel
theorem dX12_init_17 : decode cX12_init 17 = .ok (.newarray .int, 2) := by decide +kernel
theorem dX12_init_19 : decode cX12_init 19 = .ok (.putfield 13, 3) := by decide +kernel
theorem dX12_init_22 : decode cX12_init 22 = .ok (.aload_n 0, 1) := by decide +kernel
theorem dX12_init_23 : decode cX12_init 23 = .ok (.sipush 4210, 3) := by decide +kernel
theorem dX12_init_26 : decode cX12_init 26 = .ok (.newarray .int, 2) := by decide +kernel
theorem dX12_init_28 : decode cX12_init 28 = .ok (.putfield 16, 3) := by decide +kernel
theorem dX12_init_31 : decode cX12_init 31 = .ok (.aload_n 0, 1) := by decide +kernel
theorem dX12_init_32 : decode cX12_init 32 = .ok (.ldc 19, 2) := by decide +kernel
theorem dX12_init_34 : decode cX12_init 34 = .ok (.newarray .int, 2) := by decide +kernel
theorem dX12_init_36 : decode cX12_init 36 = .ok (.putfield 20, 3) := by decide +kernel
theorem dX12_init_39 : decode cX12_init 39 = .ok (.aload_n 0, 1) := by decide +kernel
theorem dX12_init_40 : decode cX12_init 40 = .ok (.iconst 4, 1) := by decide +kernel
theorem dX12_init_41 : decode cX12_init 41 = .ok (.newarray .int, 2) := by decide +kernel
theorem dX12_init_43 : decode cX12_init 43 = .ok (.putfield 23, 3) := by decide +kernel
theorem dX12_init_46 : decode cX12_init 46 = .ok (.aload_n 0, 1) := by decide +kernel
theorem dX12_init_47 : decode cX12_init 47 = .ok (.bipush 64, 2) := by decide +kernel
theorem dX12_init_49 : decode cX12_init 49 = .ok (.newarray .int, 2) := by decide +kernel
theorem dX12_init_51 : decode cX12_init 51 = .ok (.putfield 26, 3) := by decide +kernel
theorem dX12_init_54 : decode cX12_init 54 = .ok (.aload_n 0, 1) := by decide +kernel
theorem dX12_init_55 : decode cX12_init 55 = .ok (.bipush 64, 2) := by decide +kernel
theorem dX12_init_57 : decode cX12_init 57 = .ok (.newarray .int, 2) := by decide +kernel
theorem dX12_init_59 : decode cX12_init 59 = .ok (.putfield 29, 3) := by decide +kernel
theorem dX12_init_62 : decode cX12_init 62 = .ok (.aload_n 0, 1) := by decide +kernel
theorem dX12_init_63 : decode cX12_init 63 = .ok (.sipush 200, 3) := by decide +kernel
theorem dX12_init_66 : decode cX12_init 66 = .ok (.newarray .int, 2) := by decide +kernel
theorem dX12_init_68 : decode cX12_init 68 = .ok (.putfield 32, 3) := by decide +kernel
theorem dX12_init_71 : decode cX12_init 71 = .ok (.aload_n 0, 1) := by decide +kernel
theorem dX12_init_72 : decode cX12_init 72 = .ok (.sipush 600, 3) := by decide +kernel
theorem dX12_init_75 : decode cX12_init 75 = .ok (.newarray .byte, 2) := by decide +kernel
theorem dX12_init_77 : decode cX12_init 77 = .ok (.putfield 35, 3) := by decide +kernel
theorem dX12_init_80 : decode cX12_init 80 = .ok (.aload_n 0, 1) := by decide +kernel
theorem dX12_init_81 : decode cX12_init 81 = .ok (.iconst (-1), 1) := by decide +kernel
theorem dX12_init_82 : decode cX12_init 82 = .ok (.putfield 39, 3) := by decide +kernel
theorem dX12_init_85 : decode cX12_init 85 = .ok (.aload_n 0, 1) := by decide +kernel
theorem dX12_init_86 : decode cX12_init 86 = .ok (.bipush 120, 2) := by decide +kernel
theorem dX12_init_88 : decode cX12_init 88 = .ok (.newarray .int, 2) := by decide +kernel
theorem dX12_init_90 : decode cX12_init 90 = .ok (.putfield 43, 3) := by decide +kernel
theorem dX12_init_93 : decode cX12_init 93 = .ok (.aload_n 0, 1) := by decide +kernel
theorem dX12_init_94 : decode cX12_init 94 = .ok (.bipush 64, 2) := by decide +kernel
theorem dX12_init_96 : decode cX12_init 96 = .ok (.newarray .int, 2) := by decide +kernel
theorem dX12_init_98 : decode cX12_init 98 = .ok (.putfield 46, 3) := by decide +kernel
theorem dX12_init_101 : decode cX12_init 101 = .ok (.aload_n 0, 1) := by decide +kernel
theorem dX12_init_102 : decode cX12_init 102 = .ok (.sipush 322, 3) := by decide +kernel
theorem dX12_init_105 : decode cX12_init 105 = .ok (.newarray .byte, 2) := by decide +kernel
theorem dX12_init_107 : decode cX12_init 107 = .ok (.putfield 49, 3) := by decide +kernel
theorem dX12_init_110 : decode cX12_init 110 = .ok (.bipush 10, 2) := by decide +kernel
theorem dX12_init_112 : decode cX12_init 112 = .ok (.newarray .int, 2) := by decide +kernel
theorem dX12_init_114 : decode cX12_init 114 = .ok (.dup, 1) := by decide +kernel
theorem dX12_init_115 : decode cX12_init 115 = .ok (.iconst 0, 1) := by decide +kernel
theorem dX12_init_116 : decode cX12_init 116 = .ok (.iconst 5, 1) := by decide +kernel
theorem dX12_init_117 : decode cX12_init 117 = .ok (.iastore, 1) := by decide +kernel
theorem dX12_init_118 : decode cX12_init 118 = .ok (.dup, 1) := by decide +kernel
theorem dX12_init_119 : decode cX12_init 119 = .ok (.iconst 1, 1) := by decide +kernel
theorem dX12_init_120 : decode cX12_init 120 = .ok (.bipush (-2), 2) := by decide +kernel
theorem dX12_init_122 : decode cX12_init 122 = .ok (.iastore, 1) := by decide +kernel
theorem dX12_init_123 : decode cX12_init 123 = .ok (.dup, 1) := by decide +kernel
theorem dX12_init_124 : decode cX12_init 124 = .ok (.iconst 2, 1) := by decide +kernel
theorem dX12_init_125 : decode cX12_init 125 = .ok (.bipush 7, 2) := by decide +kernel
theorem dX12_init_127 : decode cX12_init 127 = .ok (.iastore, 1) := by decide +kernel
theorem dX12_init_128 : decode cX12_init 128 = .ok (.dup, 1) := by decide +kernel
theorem dX12_init_129 : decode cX12_init 129 = .ok (.iconst 3, 1) := by decide +kernel
theorem dX12_init_130 : decode cX12_init 130 = .ok (.bipush 7, 2) := by decide +kernel
theorem dX12_init_132 : decode cX12_init 132 = .ok (.iastore, 1) := by decide +kernel
theorem dX12_init_133 : decode cX12_init 133 = .ok (.dup, 1) := by decide +kernel
theorem dX12_init_134 : decode cX12_init 134 = .ok (.iconst 4, 1) := by decide +kernel
theorem dX12_init_135 : decode cX12_init 135 = .ok (.iconst 0, 1) := by decide +kernel
theorem dX12_init_136 : decode cX12_init 136 = .ok (.iastore, 1) := by decide +kernel
theorem dX12_init_137 : decode cX12_init 137 = .ok (.dup, 1) := by decide +kernel
theorem dX12_init_138 : decode cX12_init 138 = .ok (.iconst 5, 1) := by decide +kernel
theorem dX12_init_139 : decode cX12_init 139 = .ok (.bipush 12, 2) := by decide +kernel
theorem dX12_init_141 : decode cX12_init 141 = .ok (.iastore, 1) := by decide +kernel
theorem dX12_init_142 : decode cX12_init 142 = .ok (.dup, 1) := by decide +kernel
theorem dX12_init_143 : decode cX12_init 143 = .ok (.bipush 6, 2) := by decide +kernel
theorem dX12_init_145 : decode cX12_init 145 = .ok (.iconst 3, 1) := by decide +kernel
theorem dX12_init_146 : decode cX12_init 146 = .ok (.iastore, 1) := by decide +kernel
theorem dX12_init_147 : decode cX12_init 147 = .ok (.dup, 1) := by decide +kernel
theorem dX12_init_148 : decode cX12_init 148 = .ok (.bipush 7, 2) := by decide +kernel
theorem dX12_init_150 : decode cX12_init 150 = .ok (.iconst 1, 1) := by decide +kernel
theorem dX12_init_151 : decode cX12_init 151 = .ok (.iastore, 1) := by decide +kernel
theorem dX12_init_152 : decode cX12_init 152 = .ok (.dup, 1) := by decide +kernel
theorem dX12_init_153 : decode cX12_init 153 = .ok (.bipush 8, 2) := by decide +kernel
theorem dX12_init_155 : decode cX12_init 155 = .ok (.bipush 9, 2) := by decide +kernel
theorem dX12_init_157 : decode cX12_init 157 = .ok (.iastore, 1) := by decide +kernel
theorem dX12_init_158 : decode cX12_init 158 = .ok (.dup, 1) := by decide +kernel
theorem dX12_init_159 : decode cX12_init 159 = .ok (.bipush 9, 2) := by decide +kernel
theorem dX12_init_161 : decode cX12_init 161 = .ok (.iconst 4, 1) := by decide +kernel
theorem dX12_init_162 : decode cX12_init 162 = .ok (.iastore, 1) := by decide +kernel
theorem dX12_init_163 : decode cX12_init 163 = .ok (.astore_n 1, 1) := by decide +kernel
theorem dX12_init_164 : decode cX12_init 164 = .ok (.iconst 0, 1) := by decide +kernel
theorem dX12_init_165 : decode cX12_init 165 = .ok (.istore_n 2, 1) := by decide +kernel
theorem dX12_init_166 : decode cX12_init 166 = .ok (.iload_n 2, 1) := by decide +kernel
theorem dX12_init_167 : decode cX12_init 167 = .ok (.aload_n 1, 1) := by decide +kernel
theorem dX12_init_168 : decode cX12_init 168 = .ok (.arraylength, 1) := by decide +kernel
theorem dX12_init_169 : decode cX12_init 169 = .ok (.if_icmp .ge 18, 3) := by decide +kernel
theorem dX12_init_172 : decode cX12_init 172 = .ok (.aload_n 0, 1) := by decide +kernel
theorem dX12_init_173 : decode cX12_init 173 = .ok (.getfield 26, 3) := by decide +kernel
theorem dX12_init_176 : decode cX12_init 176 = .ok (.iload_n 2, 1) := by decide +kernel
theorem dX12_init_177 : decode cX12_init 177 = .ok (.aload_n 1, 1) := by decide +kernel
theorem dX12_init_178 : decode cX12_init 178 = .ok (.iload_n 2, 1) := by decide +kernel
theorem dX12_init_179 : decode cX12_init 179 = .ok (.iaload, 1) := by decide +kernel
theorem dX12_init_180 : decode cX12_init 180 = .ok (.iastore, 1) := by decide +kernel
theorem dX12_init_181 : decode cX12_init 181 = .ok (.iinc 2 1, 3) := by decide +kernel
theorem dX12_init_184 : decode cX12_init 184 = .ok (.goto (-18), 3) := by decide +kernel
theorem dX12_init_187 : decode cX12_init 187 = .ok (.aload_n 0, 1) := by decide +kernel
theorem dX12_init_188 : decode cX12_init 188 = .ok (.aload_n 1, 1) := by decide +kernel
theorem dX12_init_189 : decode cX12_init 189 = .ok (.arraylength, 1) := by decide +kernel
theorem dX12_init_190 : decode cX12_init 190 = .ok (.putfield 52, 3) := by decide +kernel
theorem dX12_init_193 : decode cX12_init 193 = .ok (.aload_n 0, 1) := by decide +kernel
theorem dX12_init_194 : decode cX12_init 194 = .ok (.invokevirtual 55, 3) := by decide +kernel
theorem dX12_init_197 : decode cX12_init 197 = .ok (.return_, 1) := by decide +kernel
theorem dX12_thrown_0 : decode cX12_thrown 0 = .ok (.aload_n 0, 1) := by decide +kernel
theorem dX12_thrown_1 : decode cX12_thrown 1 = .ok (.getfield 58, 3) := by decide +kernel
theorem dX12_thrown_4 : decode cX12_thrown 4 = .ok (.ireturn, 1) := by decide +kernel
theorem dX12_isWithin_0 : decode cX12_isWithin 0 = .ok (.lload_n 0, 1) := by decide +kernel
theorem dX12_isWithin_1 : decode cX12_isWithin 1 = .ok (.lload_n 2, 1) := by decide +kernel
theorem dX12_isWithin_2 : decode cX12_isWithin 2 = .ok (.lcmp, 1) := by decide +kernel
theorem dX12_isWithin_3 : decode cX12_isWithin 3 = .ok (.ifCond .lt 14, 3) := by decide +kernel
theorem dX12_isWithin_6 : decode cX12_isWithin 6 = .ok (.lload_n 0, 1) := by decide +kernel
theorem dX12_isWithin_7 : decode cX12_isWithin 7 = .ok (.lload 4, 2) := by decide +kernel
theorem dX12_isWithin_9 : decode cX12_isWithin 9 = .ok (.lcmp, 1) := by decide +kernel
theorem dX12_isWithin_10 : decode cX12_isWithin 10 = .ok (.ifCond .gt 7, 3) := by decide +kernel
theorem dX12_isWithin_13 : decode cX12_isWithin 13 = .ok (.iconst 1, 1) := by decide +kernel
theorem dX12_isWithin_14 : decode cX12_isWithin 14 = .ok (.goto 4, 3) := by decide +kernel
theorem dX12_isWithin_17 : decode cX12_isWithin 17 = .ok (.iconst 0, 1) := by decide +kernel
theorem dX12_isWithin_18 : decode cX12_isWithin 18 = .ok (.ireturn, 1) := by decide +kernel
theorem dX12_one_0 : decode cX12_one 0 = .ok (.iload_n 0, 1) := by decide +kernel
theorem dX12_one_1 : decode cX12_one 1 = .ok (.ifCond .eq 7, 3) := by decide +kernel
theorem dX12_one_4 : decode cX12_one 4 = .ok (.iconst 1, 1) := by decide +kernel
theorem dX12_one_5 : decode cX12_one 5 = .ok (.goto 4, 3) := by decide +kernel
theorem dX12_one_8 : decode cX12_one 8 = .ok (.iconst 0, 1) := by decide +kernel
theorem dX12_one_9 : decode cX12_one 9 = .ok (.ireturn, 1) := by decide +kernel
theorem dX12_check_0 : decode cX12_check 0 = .ok (.aload_n 0, 1) := by decide +kernel
theorem dX12_check_1 : decode cX12_check 1 = .ok (.iload_n 1, 1) := by decide +kernel
theorem dX12_check_2 : decode cX12_check 2 = .ok (.ifCond .ne 7, 3) := by decide +kernel
theorem dX12_check_5 : decode cX12_check 5 = .ok (.iconst 1, 1) := by decide +kernel
theorem dX12_check_6 : decode cX12_check 6 = .ok (.goto 20, 3) := by decide +kernel
theorem dX12_check_9 : decode cX12_check 9 = .ok (.iload_n 2, 1) := by decide +kernel
theorem dX12_check_10 : decode cX12_check 10 = .ok (.ifCond .ne 7, 3) := by decide +kernel
theorem dX12_check_13 : decode cX12_check 13 = .ok (.iconst 2, 1) := by decide +kernel
theorem dX12_check_14 : decode cX12_check 14 = .ok (.goto 12, 3) := by decide +kernel
theorem dX12_check_17 : decode cX12_check 17 = .ok (.iload_n 3, 1) := by decide +kernel
theorem dX12_check_18 : decode cX12_check 18 = .ok (.ifCond .ne 7, 3) := by decide +kernel
theorem dX12_check_21 : decode cX12_check 21 = .ok (.iconst 3, 1) := by decide +kernel
theorem dX12_check_22 : decode cX12_check 22 = .ok (.goto 4, 3) := by decide +kernel
theorem dX12_check_25 : decode cX12_check 25 = .ok (.iconst 0, 1) := by decide +kernel
theorem dX12_check_26 : decode cX12_check 26 = .ok (.putfield 58, 3) := by decide +kernel
theorem dX12_check_29 : decode cX12_check 29 = .ok (.aload_n 0, 1) := by decide +kernel
theorem dX12_check_30 : decode cX12_check 30 = .ok (.getfield 58, 3) := by decide +kernel
theorem dX12_check_33 : decode cX12_check 33 = .ok (.ifCond .ne 7, 3) := by decide +kernel
theorem dX12_check_36 : decode cX12_check 36 = .ok (.iconst 1, 1) := by decide +kernel
theorem dX12_check_37 : decode cX12_check 37 = .ok (.goto 4, 3) := by decide +kernel
theorem dX12_check_40 : decode cX12_check 40 = .ok (.iconst 0, 1) := by decide +kernel
theorem dX12_check_41 : decode cX12_check 41 = .ok (.ireturn, 1) := by decide +kernel
theorem dX12_v_0 : decode cX12_v 0 = .ok (.bipush 10, 2) := by decide +kernel
theorem dX12_v_2 : decode cX12_v 2 = .ok (.bipush 6, 2) := by decide +kernel
theorem dX12_v_4 : decode cX12_v 4 = .ok (.iload_n 0, 1) := by decide +kernel
theorem dX12_v_5 : decode cX12_v 5 = .ok (.imul, 1) := by decide +kernel
theorem dX12_v_6 : decode cX12_v 6 = .ok (.iadd, 1) := by decide +kernel
theorem dX12_v_7 : decode cX12_v 7 = .ok (.ireturn, 1) := by decide +kernel
theorem dX12_e_0 : decode cX12_e 0 = .ok (.sipush 250, 3) := by decide +kernel
theorem dX12_e_3 : decode cX12_e 3 = .ok (.bipush 64, 2) := by decide +kernel
theorem dX12_e_5 : decode cX12_e 5 = .ok (.iload_n 0, 1) := by decide +kernel
theorem dX12_e_6 : decode cX12_e 6 = .ok (.imul, 1) := by decide +kernel
theorem dX12_e_7 : decode cX12_e 7 = .ok (.iadd, 1) := by decide +kernel
theorem dX12_e_8 : decode cX12_e 8 = .ok (.ireturn, 1) := by decide +kernel
theorem dX12_n_0 : decode cX12_n 0 = .ok (.sipush 2810, 3) := by decide +kernel
theorem dX12_n_3 : decode cX12_n 3 = .ok (.bipush 7, 2) := by decide +kernel
theorem dX12_n_5 : decode cX12_n 5 = .ok (.iload_n 0, 1) := by decide +kernel
theorem dX12_n_6 : decode cX12_n 6 = .ok (.imul, 1) := by decide +kernel
theorem dX12_n_7 : decode cX12_n 7 = .ok (.iadd, 1) := by decide +kernel
theorem dX12_n_8 : decode cX12_n 8 = .ok (.ireturn, 1) := by decide +kernel
theorem dX12_clear_0 : decode cX12_clear 0 = .ok (.iconst 0, 1) := by decide +kernel
theorem dX12_clear_1 : decode cX12_clear 1 = .ok (.istore_n 1, 1) := by decide +kernel
theorem dX12_clear_2 : decode cX12_clear 2 = .ok (.iload_n 1, 1) := by decide +kernel
theorem dX12_clear_3 : decode cX12_clear 3 = .ok (.sipush 4210, 3) := by decide +kernel
theorem dX12_clear_6 : decode cX12_clear 6 = .ok (.if_icmp .ge 16, 3) := by decide +kernel
theorem dX12_clear_9 : decode cX12_clear 9 = .ok (.aload_n 0, 1) := by decide +kernel
theorem dX12_clear_10 : decode cX12_clear 10 = .ok (.getfield 9, 3) := by decide +kernel
theorem dX12_clear_13 : decode cX12_clear 13 = .ok (.iload_n 1, 1) := by decide +kernel
theorem dX12_clear_14 : decode cX12_clear 14 = .ok (.iconst 0, 1) := by decide +kernel
theorem dX12_clear_15 : decode cX12_clear 15 = .ok (.iastore, 1) := by decide +kernel
theorem dX12_clear_16 : decode cX12_clear 16 = .ok (.iinc 1 1, 3) := by decide +kernel
theorem dX12_clear_19 : decode cX12_clear 19 = .ok (.goto (-17), 3) := by decide +kernel
theorem dX12_clear_22 : decode cX12_clear 22 = .ok (.return_, 1) := by decide +kernel
theorem dX12_copyTo_0 : decode cX12_copyTo 0 = .ok (.iconst 0, 1) := by decide +kernel
theorem dX12_copyTo_1 : decode cX12_copyTo 1 = .ok (.istore_n 2, 1) := by decide +kernel
theorem dX12_copyTo_2 : decode cX12_copyTo 2 = .ok (.iload_n 2, 1) := by decide +kernel
theorem dX12_copyTo_3 : decode cX12_copyTo 3 = .ok (.sipush 4210, 3) := by decide +kernel
theorem dX12_copyTo_6 : decode cX12_copyTo 6 = .ok (.if_icmp .ge 18, 3) := by decide +kernel
theorem dX12_copyTo_9 : decode cX12_copyTo 9 = .ok (.aload_n 1, 1) := by decide +kernel
theorem dX12_copyTo_10 : decode cX12_copyTo 10 = .ok (.iload_n 2, 1) := by decide +kernel
theorem dX12_copyTo_11 : decode cX12_copyTo 11 = .ok (.aload_n 0, 1) := by decide +kernel
theorem dX12_copyTo_12 : decode cX12_copyTo 12 = .ok (.getfield 9, 3) := by decide +kernel
theorem dX12_copyTo_15 : decode cX12_copyTo 15 = .ok (.iload_n 2, 1) := by decide +kernel
theorem dX12_copyTo_16 : decode cX12_copyTo 16 = .ok (.iaload, 1) := by decide +kernel
theorem dX12_copyTo_17 : decode cX12_copyTo 17 = .ok (.iastore, 1) := by decide +kernel
theorem dX12_copyTo_18 : decode cX12_copyTo 18 = .ok (.iinc 2 1, 3) := by decide +kernel
theorem dX12_copyTo_21 : decode cX12_copyTo 21 = .ok (.goto (-19), 3) := by decide +kernel
theorem dX12_copyTo_24 : decode cX12_copyTo 24 = .ok (.return_, 1) := by decide +kernel
theorem dX12_copyFrom_0 : decode cX12_copyFrom 0 = .ok (.iconst 0, 1) := by decide +kernel
theorem dX12_copyFrom_1 : decode cX12_copyFrom 1 = .ok (.istore_n 2, 1) := by decide +kernel
theorem dX12_copyFrom_2 : decode cX12_copyFrom 2 = .ok (.iload_n 2, 1) := by decide +kernel
theorem dX12_copyFrom_3 : decode cX12_copyFrom 3 = .ok (.sipush 4210, 3) := by decide +kernel
theorem dX12_copyFrom_6 : decode cX12_copyFrom 6 = .ok (.if_icmp .ge 18, 3) := by decide +kernel
theorem dX12_copyFrom_9 : decode cX12_copyFrom 9 = .ok (.aload_n 0, 1) := by decide +kernel
theorem dX12_copyFrom_10 : decode cX12_copyFrom 10 = .ok (.getfield 9, 3) := by decide +kernel
theorem dX12_copyFrom_13 : decode cX12_copyFrom 13 = .ok (.iload_n 2, 1) := by decide +kernel
theorem dX12_copyFrom_14 : decode cX12_copyFrom 14 = .ok (.aload_n 1, 1) := by decide +kernel
theorem dX12_copyFrom_15 : decode cX12_copyFrom 15 = .ok (.iload_n 2, 1) := by decide +kernel
theorem dX12_copyFrom_16 : decode cX12_copyFrom 16 = .ok (.iaload, 1) := by decide +kernel
theorem dX12_copyFrom_17 : decode cX12_copyFrom 17 = .ok (.iastore, 1) := by decide +kernel
theorem dX12_copyFrom_18 : decode cX12_copyFrom 18 = .ok (.iinc 2 1, 3) := by decide +kernel
theorem dX12_copyFrom_21 : decode cX12_copyFrom 21 = .ok (.goto (-19), 3) := by decide +kernel
theorem dX12_copyFrom_24 : decode cX12_copyFrom 24 = .ok (.return_, 1) := by decide +kernel
theorem dX12_remember_0 : decode cX12_remember 0 = .ok (.aload_n 0, 1) := by decide +kernel
theorem dX12_remember_1 : decode cX12_remember 1 = .ok (.getfield 61, 3) := by decide +kernel
theorem dX12_remember_4 : decode cX12_remember 4 = .ok (.bipush 8, 2) := by decide +kernel
theorem dX12_remember_6 : decode cX12_remember 6 = .ok (.if_icmp .ne 45, 3) := by decide +kernel
theorem dX12_remember_9 : decode cX12_remember 9 = .ok (.sipush 4210, 3) := by decide +kernel
theorem dX12_remember_12 : decode cX12_remember 12 = .ok (.istore_n 1, 1) := by decide +kernel
theorem dX12_remember_13 : decode cX12_remember 13 = .ok (.iload_n 1, 1) := by decide +kernel
theorem dX12_remember_14 : decode cX12_remember 14 = .ok (.ldc 19, 2) := by decide +kernel
theorem dX12_remember_16 : decode cX12_remember 16 = .ok (.if_icmp .ge 25, 3) := by decide +kernel
theorem dX12_remember_19 : decode cX12_remember 19 = .ok (.aload_n 0, 1) := by decide +kernel
theorem dX12_remember_20 : decode cX12_remember 20 = .ok (.getfield 20, 3) := by decide +kernel
theorem dX12_remember_23 : decode cX12_remember 23 = .ok (.iload_n 1, 1) := by decide +kernel
theorem dX12_remember_24 : decode cX12_remember 24 = .ok (.sipush 4210, 3) := by decide +kernel
theorem dX12_remember_27 : decode cX12_remember 27 = .ok (.isub, 1) := by decide +kernel
theorem dX12_remember_28 : decode cX12_remember 28 = .ok (.aload_n 0, 1) := by decide +kernel
theorem dX12_remember_29 : decode cX12_remember 29 = .ok (.getfield 20, 3) := by decide +kernel
theorem dX12_remember_32 : decode cX12_remember 32 = .ok (.iload_n 1, 1) := by decide +kernel
theorem dX12_remember_33 : decode cX12_remember 33 = .ok (.iaload, 1) := by decide +kernel
theorem dX12_remember_34 : decode cX12_remember 34 = .ok (.iastore, 1) := by decide +kernel
theorem dX12_remember_35 : decode cX12_remember 35 = .ok (.iinc 1 1, 3) := by decide +kernel
theorem dX12_remember_38 : decode cX12_remember 38 = .ok (.goto (-25), 3) := by decide +kernel
theorem dX12_remember_41 : decode cX12_remember 41 = .ok (.aload_n 0, 1) := by decide +kernel
theorem dX12_remember_42 : decode cX12_remember 42 = .ok (.dup, 1) := by decide +kernel
theorem dX12_remember_43 : decode cX12_remember 43 = .ok (.getfield 61, 3) := by decide +kernel
theorem dX12_remember_46 : decode cX12_remember 46 = .ok (.iconst 1, 1) := by decide +kernel
theorem dX12_remember_47 : decode cX12_remember 47 = .ok (.isub, 1) := by decide +kernel
theorem dX12_remember_48 : decode cX12_remember 48 = .ok (.putfield 61, 3) := by decide +kernel
theorem dX12_remember_51 : decode cX12_remember 51 = .ok (.iconst 0, 1) := by decide +kernel
theorem dX12_remember_52 : decode cX12_remember 52 = .ok (.istore_n 1, 1) := by decide +kernel
theorem dX12_remember_53 : decode cX12_remember 53 = .ok (.iload_n 1, 1) := by decide +kernel
theorem dX12_remember_54 : decode cX12_remember 54 = .ok (.sipush 4210, 3) := by decide +kernel
theorem dX12_remember_57 : decode cX12_remember 57 = .ok (.if_icmp .ge 30, 3) := by decide +kernel
theorem dX12_remember_60 : decode cX12_remember 60 = .ok (.aload_n 0, 1) := by decide +kernel
theorem dX12_remember_61 : decode cX12_remember 61 = .ok (.getfield 20, 3) := by decide +kernel
theorem dX12_remember_64 : decode cX12_remember 64 = .ok (.sipush 4210, 3) := by decide +kernel
theorem dX12_remember_67 : decode cX12_remember 67 = .ok (.aload_n 0, 1) := by decide +kernel
theorem dX12_remember_68 : decode cX12_remember 68 = .ok (.getfield 61, 3) := by decide +kernel
theorem dX12_remember_71 : decode cX12_remember 71 = .ok (.imul, 1) := by decide +kernel
theorem dX12_remember_72 : decode cX12_remember 72 = .ok (.iload_n 1, 1) := by decide +kernel
theorem dX12_remember_73 : decode cX12_remember 73 = .ok (.iadd, 1) := by decide +kernel
theorem dX12_remember_74 : decode cX12_remember 74 = .ok (.aload_n 0, 1) := by decide +kernel
theorem dX12_remember_75 : decode cX12_remember 75 = .ok (.getfield 9, 3) := by decide +kernel
theorem dX12_remember_78 : decode cX12_remember 78 = .ok (.iload_n 1, 1) := by decide +kernel
theorem dX12_remember_79 : decode cX12_remember 79 = .ok (.iaload, 1) := by decide +kernel
theorem dX12_remember_80 : decode cX12_remember 80 = .ok (.iastore, 1) := by decide +kernel
theorem dX12_remember_81 : decode cX12_remember 81 = .ok (.iinc 1 1, 3) := by decide +kernel
theorem dX12_remember_84 : decode cX12_remember 84 = .ok (.goto (-31), 3) := by decide +kernel
theorem dX12_remember_87 : decode cX12_remember 87 = .ok (.aload_n 0, 1) := by decide +kernel
theorem dX12_remember_88 : decode cX12_remember 88 = .ok (.dup, 1) := by decide +kernel
theorem dX12_remember_89 : decode cX12_remember 89 = .ok (.getfield 61, 3) := by decide +kernel
theorem dX12_remember_92 : decode cX12_remember 92 = .ok (.iconst 1, 1) := by decide +kernel
theorem dX12_remember_93 : decode cX12_remember 93 = .ok (.iadd, 1) := by decide +kernel
theorem dX12_remember_94 : decode cX12_remember 94 = .ok (.putfield 61, 3) := by decide +kernel
theorem dX12_remember_97 : decode cX12_remember 97 = .ok (.return_, 1) := by decide +kernel
theorem dX12_span_0 : decode cX12_span 0 = .ok (.iconst 1, 1) := by decide +kernel
theorem dX12_span_1 : decode cX12_span 1 = .ok (.istore_n 1, 1) := by decide +kernel
theorem dX12_span_2 : decode cX12_span 2 = .ok (.iconst 0, 1) := by decide +kernel
theorem dX12_span_3 : decode cX12_span 3 = .ok (.istore_n 2, 1) := by decide +kernel
theorem dX12_span_4 : decode cX12_span 4 = .ok (.iload_n 2, 1) := by decide +kernel
theorem dX12_span_5 : decode cX12_span 5 = .ok (.iload_n 0, 1) := by decide +kernel
theorem dX12_span_6 : decode cX12_span 6 = .ok (.if_icmp .ge 13, 3) := by decide +kernel
theorem dX12_span_9 : decode cX12_span 9 = .ok (.iload_n 1, 1) := by decide +kernel
theorem dX12_span_10 : decode cX12_span 10 = .ok (.iconst 4, 1) := by decide +kernel
theorem dX12_span_11 : decode cX12_span 11 = .ok (.imul, 1) := by decide +kernel
theorem dX12_span_12 : decode cX12_span 12 = .ok (.istore_n 1, 1) := by decide +kernel
theorem dX12_span_13 : decode cX12_span 13 = .ok (.iinc 2 1, 3) := by decide +kernel
theorem dX12_span_16 : decode cX12_span 16 = .ok (.goto (-12), 3) := by decide +kernel
theorem dX12_span_19 : decode cX12_span 19 = .ok (.iload_n 1, 1) := by decide +kernel
theorem dX12_span_20 : decode cX12_span 20 = .ok (.ireturn, 1) := by decide +kernel
theorem dX12_heightFor_0 : decode cX12_heightFor 0 = .ok (.iload_n 0, 1) := by decide +kernel
theorem dX12_heightFor_1 : decode cX12_heightFor 1 = .ok (.ifCond .ne 5, 3) := by decide +kernel
theorem dX12_heightFor_4 : decode cX12_heightFor 4 = .ok (.iconst 0, 1) := by decide +kernel
theorem dX12_heightFor_5 : decode cX12_heightFor 5 = .ok (.ireturn, 1) := by decide +kernel
theorem dX12_heightFor_6 : decode cX12_heightFor 6 = .ok (.iconst 1, 1) := by decide +kernel
theorem dX12_heightFor_7 : decode cX12_heightFor 7 = .ok (.istore_n 1, 1) := by decide +kernel
theorem dX12_heightFor_8 : decode cX12_heightFor 8 = .ok (.iload_n 1, 1) := by decide +kernel
theorem dX12_heightFor_9 : decode cX12_heightFor 9 = .ok (.invokestatic 64, 3) := by decide +kernel
theorem dX12_heightFor_12 : decode cX12_heightFor 12 = .ok (.iload_n 0, 1) := by decide +kernel
theorem dX12_heightFor_13 : decode cX12_heightFor 13 = .ok (.if_icmp .ge 9, 3) := by decide +kernel
theorem dX12_heightFor_16 : decode cX12_heightFor 16 = .ok (.iinc 1 1, 3) := by decide +kernel
theorem dX12_heightFor_19 : decode cX12_heightFor 19 = .ok (.goto (-11), 3) := by decide +kernel
theorem dX12_heightFor_22 : decode cX12_heightFor 22 = .ok (.iload_n 1, 1) := by decide +kernel
theorem dX12_heightFor_23 : decode cX12_heightFor 23 = .ok (.ireturn, 1) := by decide +kernel
theorem dX12_isLeafNode_0 : decode cX12_isLeafNode 0 = .ok (.aload_n 0, 1) := by decide +kernel
theorem dX12_isLeafNode_1 : decode cX12_isLeafNode 1 = .ok (.getfield 9, 3) := by decide +kernel
theorem dX12_isLeafNode_4 : decode cX12_isLeafNode 4 = .ok (.iload_n 1, 1) := by decide +kernel
theorem dX12_isLeafNode_5 : decode cX12_isLeafNode 5 = .ok (.invokestatic 68, 3) := by decide +kernel
theorem dX12_isLeafNode_8 : decode cX12_isLeafNode 8 = .ok (.iconst 0, 1) := by decide +kernel
theorem dX12_isLeafNode_9 : decode cX12_isLeafNode 9 = .ok (.iadd, 1) := by decide +kernel
theorem dX12_isLeafNode_10 : decode cX12_isLeafNode 10 = .ok (.iaload, 1) := by decide +kernel
theorem dX12_isLeafNode_11 : decode cX12_isLeafNode 11 = .ok (.iconst 1, 1) := by decide +kernel
theorem dX12_isLeafNode_12 : decode cX12_isLeafNode 12 = .ok (.if_icmp .ne 7, 3) := by decide +kernel
theorem dX12_isLeafNode_15 : decode cX12_isLeafNode 15 = .ok (.iconst 1, 1) := by decide +kernel
theorem dX12_isLeafNode_16 : decode cX12_isLeafNode 16 = .ok (.goto 4, 3) := by decide +kernel
theorem dX12_isLeafNode_19 : decode cX12_isLeafNode 19 = .ok (.iconst 0, 1) := by decide +kernel
theorem dX12_isLeafNode_20 : decode cX12_isLeafNode 20 = .ok (.ireturn, 1) := by decide +kernel
theorem dX12_countOf_0 : decode cX12_countOf 0 = .ok (.aload_n 0, 1) := by decide +kernel
theorem dX12_countOf_1 : decode cX12_countOf 1 = .ok (.getfield 9, 3) := by decide +kernel
theorem dX12_countOf_4 : decode cX12_countOf 4 = .ok (.iload_n 1, 1) := by decide +kernel
theorem dX12_countOf_5 : decode cX12_countOf 5 = .ok (.invokestatic 68, 3) := by decide +kernel
theorem dX12_countOf_8 : decode cX12_countOf 8 = .ok (.iconst 1, 1) := by decide +kernel
theorem dX12_countOf_9 : decode cX12_countOf 9 = .ok (.iadd, 1) := by decide +kernel
theorem dX12_countOf_10 : decode cX12_countOf 10 = .ok (.iaload, 1) := by decide +kernel
theorem dX12_countOf_11 : decode cX12_countOf 11 = .ok (.ireturn, 1) := by decide +kernel
theorem dX12_entry_0 : decode cX12_entry 0 = .ok (.aload_n 0, 1) := by decide +kernel
theorem dX12_entry_1 : decode cX12_entry 1 = .ok (.getfield 9, 3) := by decide +kernel
theorem dX12_entry_4 : decode cX12_entry 4 = .ok (.iload_n 1, 1) := by decide +kernel
theorem dX12_entry_5 : decode cX12_entry 5 = .ok (.invokestatic 68, 3) := by decide +kernel
theorem dX12_entry_8 : decode cX12_entry 8 = .ok (.iconst 2, 1) := by decide +kernel
theorem dX12_entry_9 : decode cX12_entry 9 = .ok (.iadd, 1) := by decide +kernel
theorem dX12_entry_10 : decode cX12_entry 10 = .ok (.iload_n 2, 1) := by decide +kernel
theorem dX12_entry_11 : decode cX12_entry 11 = .ok (.iadd, 1) := by decide +kernel
theorem dX12_entry_12 : decode cX12_entry 12 = .ok (.iaload, 1) := by decide +kernel
theorem dX12_entry_13 : decode cX12_entry 13 = .ok (.ireturn, 1) := by decide +kernel
theorem dX12_takeEntries_0 : decode cX12_takeEntries 0 = .ok (.iconst 0, 1) := by decide +kernel
theorem dX12_takeEntries_1 : decode cX12_takeEntries 1 = .ok (.istore_n 3, 1) := by decide +kernel
theorem dX12_takeEntries_2 : decode cX12_takeEntries 2 = .ok (.iload_n 3, 1) := by decide +kernel
theorem dX12_takeEntries_3 : decode cX12_takeEntries 3 = .ok (.iload_n 2, 1) := by decide +kernel
theorem dX12_takeEntries_4 : decode cX12_takeEntries 4 = .ok (.if_icmp .ge 21, 3) := by decide +kernel
theorem dX12_takeEntries_7 : decode cX12_takeEntries 7 = .ok (.aload_n 0, 1) := by decide +kernel
theorem dX12_takeEntries_8 : decode cX12_takeEntries 8 = .ok (.getfield 23, 3) := by decide +kernel
theorem dX12_takeEntries_11 : decode cX12_takeEntries 11 = .ok (.iload_n 3, 1) := by decide +kernel
theorem dX12_takeEntries_12 : decode cX12_takeEntries 12 = .ok (.aload_n 0, 1) := by decide +kernel
theorem dX12_takeEntries_13 : decode cX12_takeEntries 13 = .ok (.iload_n 1, 1) := by decide +kernel
theorem dX12_takeEntries_14 : decode cX12_takeEntries 14 = .ok (.iload_n 3, 1) := by decide +kernel
theorem dX12_takeEntries_15 : decode cX12_takeEntries 15 = .ok (.invokevirtual 71, 3) := by decide +kernel
theorem dX12_takeEntries_18 : decode cX12_takeEntries 18 = .ok (.iastore, 1) := by decide +kernel
theorem dX12_takeEntries_19 : decode cX12_takeEntries 19 = .ok (.iinc 3 1, 3) := by decide +kernel
theorem dX12_takeEntries_22 : decode cX12_takeEntries 22 = .ok (.goto (-20), 3) := by decide +kernel
theorem dX12_takeEntries_25 : decode cX12_takeEntries 25 = .ok (.return_, 1) := by decide +kernel
theorem dX12_makeNode_0 : decode cX12_makeNode 0 = .ok (.aload_n 0, 1) := by decide +kernel
theorem dX12_makeNode_1 : decode cX12_makeNode 1 = .ok (.getfield 9, 3) := by decide +kernel
theorem dX12_makeNode_4 : decode cX12_makeNode 4 = .ok (.iconst 1, 1) := by decide +kernel
theorem dX12_makeNode_5 : decode cX12_makeNode 5 = .ok (.iaload, 1) := by decide +kernel
theorem dX12_makeNode_6 : decode cX12_makeNode 6 = .ok (.istore_n 3, 1) := by decide +kernel
theorem dX12_makeNode_7 : decode cX12_makeNode 7 = .ok (.aload_n 0, 1) := by decide +kernel
theorem dX12_makeNode_8 : decode cX12_makeNode 8 = .ok (.getfield 9, 3) := by decide +kernel
theorem dX12_makeNode_11 : decode cX12_makeNode 11 = .ok (.iload_n 3, 1) := by decide +kernel
theorem dX12_makeNode_12 : decode cX12_makeNode 12 = .ok (.invokestatic 68, 3) := by decide +kernel
theorem dX12_makeNode_15 : decode cX12_makeNode 15 = .ok (.iconst 0, 1) := by decide +kernel
theorem dX12_makeNode_16 : decode cX12_makeNode 16 = .ok (.iadd, 1) := by decide +kernel
theorem dX12_makeNode_17 : decode cX12_makeNode 17 = .ok (.iload_n 1, 1) := by decide +kernel
theorem dX12_makeNode_18 : decode cX12_makeNode 18 = .ok (.invokestatic 75, 3) := by decide +kernel
theorem dX12_makeNode_21 : decode cX12_makeNode 21 = .ok (.iastore, 1) := by decide +kernel
theorem dX12_makeNode_22 : decode cX12_makeNode 22 = .ok (.aload_n 0, 1) := by decide +kernel
theorem dX12_makeNode_23 : decode cX12_makeNode 23 = .ok (.getfield 9, 3) := by decide +kernel
theorem dX12_makeNode_26 : decode cX12_makeNode 26 = .ok (.iload_n 3, 1) := by decide +kernel
theorem dX12_makeNode_27 : decode cX12_makeNode 27 = .ok (.invokestatic 68, 3) := by decide +kernel
theorem dX12_makeNode_30 : decode cX12_makeNode 30 = .ok (.iconst 1, 1) := by decide +kernel
theorem dX12_makeNode_31 : decode cX12_makeNode 31 = .ok (.iadd, 1) := by decide +kernel
theorem dX12_makeNode_32 : decode cX12_makeNode 32 = .ok (.iload_n 2, 1) := by decide +kernel
theorem dX12_makeNode_33 : decode cX12_makeNode 33 = .ok (.iastore, 1) := by decide +kernel
theorem dX12_makeNode_34 : decode cX12_makeNode 34 = .ok (.iconst 0, 1) := by decide +kernel
theorem dX12_makeNode_35 : decode cX12_makeNode 35 = .ok (.istore 4, 2) := by decide +kernel
theorem dX12_makeNode_37 : decode cX12_makeNode 37 = .ok (.iload 4, 2) := by decide +kernel
theorem dX12_makeNode_39 : decode cX12_makeNode 39 = .ok (.iconst 4, 1) := by decide +kernel
theorem dX12_makeNode_40 : decode cX12_makeNode 40 = .ok (.if_icmp .ge 40, 3) := by decide +kernel
theorem dX12_makeNode_43 : decode cX12_makeNode 43 = .ok (.aload_n 0, 1) := by decide +kernel
theorem dX12_makeNode_44 : decode cX12_makeNode 44 = .ok (.getfield 9, 3) := by decide +kernel
theorem dX12_makeNode_47 : decode cX12_makeNode 47 = .ok (.iload_n 3, 1) := by decide +kernel
theorem dX12_makeNode_48 : decode cX12_makeNode 48 = .ok (.invokestatic 68, 3) := by decide +kernel
theorem dX12_makeNode_51 : decode cX12_makeNode 51 = .ok (.iconst 2, 1) := by decide +kernel
theorem dX12_makeNode_52 : decode cX12_makeNode 52 = .ok (.iadd, 1) := by decide +kernel
theorem dX12_makeNode_53 : decode cX12_makeNode 53 = .ok (.iload 4, 2) := by decide +kernel
theorem dX12_makeNode_55 : decode cX12_makeNode 55 = .ok (.iadd, 1) := by decide +kernel
theorem dX12_makeNode_56 : decode cX12_makeNode 56 = .ok (.iload 4, 2) := by decide +kernel
theorem dX12_makeNode_58 : decode cX12_makeNode 58 = .ok (.iload_n 2, 1) := by decide +kernel
theorem dX12_makeNode_59 : decode cX12_makeNode 59 = .ok (.if_icmp .ge 13, 3) := by decide +kernel
theorem dX12_makeNode_62 : decode cX12_makeNode 62 = .ok (.aload_n 0, 1) := by decide +kernel
theorem dX12_makeNode_63 : decode cX12_makeNode 63 = .ok (.getfield 23, 3) := by decide +kernel
theorem dX12_makeNode_66 : decode cX12_makeNode 66 = .ok (.iload 4, 2) := by decide +kernel
theorem dX12_makeNode_68 : decode cX12_makeNode 68 = .ok (.iaload, 1) := by decide +kernel
theorem dX12_makeNode_69 : decode cX12_makeNode 69 = .ok (.goto 4, 3) := by decide +kernel
theorem dX12_makeNode_72 : decode cX12_makeNode 72 = .ok (.iconst 0, 1) := by decide +kernel
theorem dX12_makeNode_73 : decode cX12_makeNode 73 = .ok (.iastore, 1) := by decide +kernel
theorem dX12_makeNode_74 : decode cX12_makeNode 74 = .ok (.iinc 4 1, 3) := by decide +kernel
theorem dX12_makeNode_77 : decode cX12_makeNode 77 = .ok (.goto (-40), 3) := by decide +kernel
theorem dX12_makeNode_80 : decode cX12_makeNode 80 = .ok (.aload_n 0, 1) := by decide +kernel
theorem dX12_makeNode_81 : decode cX12_makeNode 81 = .ok (.getfield 9, 3) := by decide +kernel
theorem dX12_makeNode_84 : decode cX12_makeNode 84 = .ok (.iload_n 3, 1) := by decide +kernel
theorem dX12_makeNode_85 : decode cX12_makeNode 85 = .ok (.invokestatic 68, 3) := by decide +kernel
theorem dX12_makeNode_88 : decode cX12_makeNode 88 = .ok (.bipush 6, 2) := by decide +kernel
theorem dX12_makeNode_90 : decode cX12_makeNode 90 = .ok (.iadd, 1) := by decide +kernel
theorem dX12_makeNode_91 : decode cX12_makeNode 91 = .ok (.iconst 1, 1) := by decide +kernel
theorem dX12_makeNode_92 : decode cX12_makeNode 92 = .ok (.iastore, 1) := by decide +kernel
theorem dX12_makeNode_93 : decode cX12_makeNode 93 = .ok (.aload_n 0, 1) := by decide +kernel
theorem dX12_makeNode_94 : decode cX12_makeNode 94 = .ok (.getfield 9, 3) := by decide +kernel
theorem dX12_makeNode_97 : decode cX12_makeNode 97 = .ok (.iconst 1, 1) := by decide +kernel
theorem dX12_makeNode_98 : decode cX12_makeNode 98 = .ok (.dup2, 1) := by decide +kernel
theorem dX12_makeNode_99 : decode cX12_makeNode 99 = .ok (.iaload, 1) := by decide +kernel
theorem dX12_makeNode_100 : decode cX12_makeNode 100 = .ok (.iconst 1, 1) := by decide +kernel
theorem dX12_makeNode_101 : decode cX12_makeNode 101 = .ok (.iadd, 1) := by decide +kernel
theorem dX12_makeNode_102 : decode cX12_makeNode 102 = .ok (.iastore, 1) := by decide +kernel
theorem dX12_makeNode_103 : decode cX12_makeNode 103 = .ok (.iload_n 3, 1) := by decide +kernel
theorem dX12_makeNode_104 : decode cX12_makeNode 104 = .ok (.ireturn, 1) := by decide +kernel
theorem dX12_remake_0 : decode cX12_remake 0 = .ok (.iload_n 1, 1) := by decide +kernel
theorem dX12_remake_1 : decode cX12_remake 1 = .ok (.iconst (-1), 1) := by decide +kernel
theorem dX12_remake_2 : decode cX12_remake 2 = .ok (.if_icmp .ne 7, 3) := by decide +kernel
theorem dX12_remake_5 : decode cX12_remake 5 = .ok (.iconst 0, 1) := by decide +kernel
theorem dX12_remake_6 : decode cX12_remake 6 = .ok (.goto 8, 3) := by decide +kernel
theorem dX12_remake_9 : decode cX12_remake 9 = .ok (.aload_n 0, 1) := by decide +kernel
theorem dX12_remake_10 : decode cX12_remake 10 = .ok (.iload_n 1, 1) := by decide +kernel
theorem dX12_remake_11 : decode cX12_remake 11 = .ok (.invokevirtual 79, 3) := by decide +kernel
theorem dX12_remake_14 : decode cX12_remake 14 = .ok (.istore 6, 2) := by decide +kernel
theorem dX12_remake_16 : decode cX12_remake 16 = .ok (.aload_n 0, 1) := by decide +kernel
theorem dX12_remake_17 : decode cX12_remake 17 = .ok (.iload_n 1, 1) := by decide +kernel
theorem dX12_remake_18 : decode cX12_remake 18 = .ok (.iconst (-1), 1) := by decide +kernel
theorem dX12_remake_19 : decode cX12_remake 19 = .ok (.if_icmp .ne 7, 3) := by decide +kernel
theorem dX12_remake_22 : decode cX12_remake 22 = .ok (.iconst 0, 1) := by decide +kernel
theorem dX12_remake_23 : decode cX12_remake 23 = .ok (.goto 4, 3) := by decide +kernel
theorem dX12_remake_26 : decode cX12_remake 26 = .ok (.iload_n 1, 1) := by decide +kernel
theorem dX12_remake_27 : decode cX12_remake 27 = .ok (.iload 6, 2) := by decide +kernel
theorem dX12_remake_29 : decode cX12_remake 29 = .ok (.invokevirtual 82, 3) := by decide +kernel
theorem dX12_remake_32 : decode cX12_remake 32 = .ok (.aload_n 0, 1) := by decide +kernel
theorem dX12_remake_33 : decode cX12_remake 33 = .ok (.getfield 23, 3) := by decide +kernel
theorem dX12_remake_36 : decode cX12_remake 36 = .ok (.iload_n 2, 1) := by decide +kernel
theorem dX12_remake_37 : decode cX12_remake 37 = .ok (.iload_n 3, 1) := by decide +kernel
theorem dX12_remake_38 : decode cX12_remake 38 = .ok (.iastore, 1) := by decide +kernel
theorem dX12_remake_39 : decode cX12_remake 39 = .ok (.aload_n 0, 1) := by decide +kernel
theorem dX12_remake_40 : decode cX12_remake 40 = .ok (.iload 5, 2) := by decide +kernel
theorem dX12_remake_42 : decode cX12_remake 42 = .ok (.iload 4, 2) := by decide +kernel
theorem dX12_remake_44 : decode cX12_remake 44 = .ok (.ifCond .eq 9, 3) := by decide +kernel
theorem dX12_remake_47 : decode cX12_remake 47 = .ok (.iload_n 2, 1) := by decide +kernel
theorem dX12_remake_48 : decode cX12_remake 48 = .ok (.iconst 1, 1) := by decide +kernel
theorem dX12_remake_49 : decode cX12_remake 49 = .ok (.iadd, 1) := by decide +kernel
theorem dX12_remake_50 : decode cX12_remake 50 = .ok (.goto 5, 3) := by decide +kernel
theorem dX12_remake_53 : decode cX12_remake 53 = .ok (.iload 6, 2) := by decide +kernel
theorem dX12_remake_55 : decode cX12_remake 55 = .ok (.invokevirtual 86, 3) := by decide +kernel
theorem dX12_remake_58 : decode cX12_remake 58 = .ok (.ireturn, 1) := by decide +kernel
theorem dX12_elementsUnder_0 : decode cX12_elementsUnder 0 = .ok (.aload_n 0, 1) := by decide +kernel
theorem dX12_elementsUnder_1 : decode cX12_elementsUnder 1 = .ok (.iload_n 1, 1) := by decide +kernel
theorem dX12_elementsUnder_2 : decode cX12_elementsUnder 2 = .ok (.invokevirtual 90, 3) := by decide +kernel
theorem dX12_elementsUnder_5 : decode cX12_elementsUnder 5 = .ok (.ifCond .eq 9, 3) := by decide +kernel
theorem dX12_elementsUnder_8 : decode cX12_elementsUnder 8 = .ok (.aload_n 0, 1) := by decide +kernel
theorem dX12_elementsUnder_9 : decode cX12_elementsUnder 9 = .ok (.iload_n 1, 1) := by decide +kernel
theorem dX12_elementsUnder_10 : decode cX12_elementsUnder 10 = .ok (.invokevirtual 79, 3) := by decide +kernel
theorem dX12_elementsUnder_13 : decode cX12_elementsUnder 13 = .ok (.ireturn, 1) := by decide +kernel
theorem dX12_elementsUnder_14 : decode cX12_elementsUnder 14 = .ok (.iconst 0, 1) := by decide +kernel
theorem dX12_elementsUnder_15 : decode cX12_elementsUnder 15 = .ok (.istore_n 2, 1) := by decide +kernel
theorem dX12_elementsUnder_16 : decode cX12_elementsUnder 16 = .ok (.iconst 0, 1) := by decide +kernel
theorem dX12_elementsUnder_17 : decode cX12_elementsUnder 17 = .ok (.istore_n 3, 1) := by decide +kernel
theorem dX12_elementsUnder_18 : decode cX12_elementsUnder 18 = .ok (.iload_n 3, 1) := by decide +kernel
theorem dX12_elementsUnder_19 : decode cX12_elementsUnder 19 = .ok (.aload_n 0, 1) := by decide +kernel
theorem dX12_elementsUnder_20 : decode cX12_elementsUnder 20 = .ok (.iload_n 1, 1) := by decide +kernel
theorem dX12_elementsUnder_21 : decode cX12_elementsUnder 21 = .ok (.invokevirtual 79, 3) := by decide +kernel
theorem dX12_elementsUnder_24 : decode cX12_elementsUnder 24 = .ok (.if_icmp .ge 22, 3) := by decide +kernel
theorem dX12_elementsUnder_27 : decode cX12_elementsUnder 27 = .ok (.iload_n 2, 1) := by decide +kernel
theorem dX12_elementsUnder_28 : decode cX12_elementsUnder 28 = .ok (.aload_n 0, 1) := by decide +kernel
theorem dX12_elementsUnder_29 : decode cX12_elementsUnder 29 = .ok (.aload_n 0, 1) := by decide +kernel
theorem dX12_elementsUnder_30 : decode cX12_elementsUnder 30 = .ok (.iload_n 1, 1) := by decide +kernel
theorem dX12_elementsUnder_31 : decode cX12_elementsUnder 31 = .ok (.iload_n 3, 1) := by decide +kernel
theorem dX12_elementsUnder_32 : decode cX12_elementsUnder 32 = .ok (.invokevirtual 71, 3) := by decide +kernel
theorem dX12_elementsUnder_35 : decode cX12_elementsUnder 35 = .ok (.invokevirtual 94, 3) := by decide +kernel
theorem dX12_elementsUnder_38 : decode cX12_elementsUnder 38 = .ok (.iadd, 1) := by decide +kernel
theorem dX12_elementsUnder_39 : decode cX12_elementsUnder 39 = .ok (.istore_n 2, 1) := by decide +kernel
theorem dX12_elementsUnder_40 : decode cX12_elementsUnder 40 = .ok (.iinc 3 1, 3) := by decide +kernel
theorem dX12_elementsUnder_43 : decode cX12_elementsUnder 43 = .ok (.goto (-25), 3) := by decide +kernel
theorem dX12_elementsUnder_46 : decode cX12_elementsUnder 46 = .ok (.iload_n 2, 1) := by decide +kernel
theorem dX12_elementsUnder_47 : decode cX12_elementsUnder 47 = .ok (.ireturn, 1) := by decide +kernel
theorem dX12_replaced_0 : decode cX12_replaced 0 = .ok (.iload_n 2, 1) := by decide +kernel
theorem dX12_replaced_1 : decode cX12_replaced 1 = .ok (.iconst 1, 1) := by decide +kernel
theorem dX12_replaced_2 : decode cX12_replaced 2 = .ok (.if_icmp .ne 14, 3) := by decide +kernel
theorem dX12_replaced_5 : decode cX12_replaced 5 = .ok (.aload_n 0, 1) := by decide +kernel
theorem dX12_replaced_6 : decode cX12_replaced 6 = .ok (.iload_n 1, 1) := by decide +kernel
theorem dX12_replaced_7 : decode cX12_replaced 7 = .ok (.iload_n 3, 1) := by decide +kernel
theorem dX12_replaced_8 : decode cX12_replaced 8 = .ok (.iload 4, 2) := by decide +kernel
theorem dX12_replaced_10 : decode cX12_replaced 10 = .ok (.iconst 0, 1) := by decide +kernel
theorem dX12_replaced_11 : decode cX12_replaced 11 = .ok (.iconst 1, 1) := by decide +kernel
theorem dX12_replaced_12 : decode cX12_replaced 12 = .ok (.invokevirtual 97, 3) := by decide +kernel
theorem dX12_replaced_15 : decode cX12_replaced 15 = .ok (.ireturn, 1) := by decide +kernel
theorem dX12_replaced_16 : decode cX12_replaced 16 = .ok (.iload_n 2, 1) := by decide +kernel
theorem dX12_replaced_17 : decode cX12_replaced 17 = .ok (.iconst 1, 1) := by decide +kernel
theorem dX12_replaced_18 : decode cX12_replaced 18 = .ok (.isub, 1) := by decide +kernel
theorem dX12_replaced_19 : decode cX12_replaced 19 = .ok (.invokestatic 64, 3) := by decide +kernel
theorem dX12_replaced_22 : decode cX12_replaced 22 = .ok (.istore 5, 2) := by decide +kernel
theorem dX12_replaced_24 : decode cX12_replaced 24 = .ok (.iload_n 3, 1) := by decide +kernel
theorem dX12_replaced_25 : decode cX12_replaced 25 = .ok (.iload 5, 2) := by decide +kernel
theorem dX12_replaced_27 : decode cX12_replaced 27 = .ok (.idiv, 1) := by decide +kernel
theorem dX12_replaced_28 : decode cX12_replaced 28 = .ok (.istore 6, 2) := by decide +kernel
theorem dX12_replaced_30 : decode cX12_replaced 30 = .ok (.aload_n 0, 1) := by decide +kernel
theorem dX12_replaced_31 : decode cX12_replaced 31 = .ok (.aload_n 0, 1) := by decide +kernel
theorem dX12_replaced_32 : decode cX12_replaced 32 = .ok (.iload_n 1, 1) := by decide +kernel
theorem dX12_replaced_33 : decode cX12_replaced 33 = .ok (.iload 6, 2) := by decide +kernel
theorem dX12_replaced_35 : decode cX12_replaced 35 = .ok (.invokevirtual 71, 3) := by decide +kernel
theorem dX12_replaced_38 : decode cX12_replaced 38 = .ok (.iload_n 2, 1) := by decide +kernel
theorem dX12_replaced_39 : decode cX12_replaced 39 = .ok (.iconst 1, 1) := by decide +kernel
theorem dX12_replaced_40 : decode cX12_replaced 40 = .ok (.isub, 1) := by decide +kernel
theorem dX12_replaced_41 : decode cX12_replaced 41 = .ok (.iload_n 3, 1) := by decide +kernel
theorem dX12_replaced_42 : decode cX12_replaced 42 = .ok (.iload 5, 2) := by decide +kernel
theorem dX12_replaced_44 : decode cX12_replaced 44 = .ok (.irem, 1) := by decide +kernel
theorem dX12_replaced_45 : decode cX12_replaced 45 = .ok (.iload 4, 2) := by decide +kernel
theorem dX12_replaced_47 : decode cX12_replaced 47 = .ok (.invokevirtual 101, 3) := by decide +kernel
theorem dX12_replaced_50 : decode cX12_replaced 50 = .ok (.istore 7, 2) := by decide +kernel
theorem dX12_replaced_52 : decode cX12_replaced 52 = .ok (.aload_n 0, 1) := by decide +kernel
theorem dX12_replaced_53 : decode cX12_replaced 53 = .ok (.iload_n 1, 1) := by decide +kernel
theorem dX12_replaced_54 : decode cX12_replaced 54 = .ok (.iload 6, 2) := by decide +kernel
theorem dX12_replaced_56 : decode cX12_replaced 56 = .ok (.iload 7, 2) := by decide +kernel
theorem dX12_replaced_58 : decode cX12_replaced 58 = .ok (.iconst 0, 1) := by decide +kernel
theorem dX12_replaced_59 : decode cX12_replaced 59 = .ok (.iconst 0, 1) := by decide +kernel
theorem dX12_replaced_60 : decode cX12_replaced 60 = .ok (.invokevirtual 97, 3) := by decide +kernel
theorem dX12_replaced_63 : decode cX12_replaced 63 = .ok (.ireturn, 1) := by decide +kernel
theorem dX12_extended_0 : decode cX12_extended 0 = .ok (.iload_n 2, 1) := by decide +kernel
theorem dX12_extended_1 : decode cX12_extended 1 = .ok (.iconst 1, 1) := by decide +kernel
theorem dX12_extended_2 : decode cX12_extended 2 = .ok (.if_icmp .ne 14, 3) := by decide +kernel
theorem dX12_extended_5 : decode cX12_extended 5 = .ok (.aload_n 0, 1) := by decide +kernel
theorem dX12_extended_6 : decode cX12_extended 6 = .ok (.iload_n 1, 1) := by decide +kernel
theorem dX12_extended_7 : decode cX12_extended 7 = .ok (.iload_n 3, 1) := by decide +kernel
theorem dX12_extended_8 : decode cX12_extended 8 = .ok (.iload 4, 2) := by decide +kernel
theorem dX12_extended_10 : decode cX12_extended 10 = .ok (.iconst 1, 1) := by decide +kernel
theorem dX12_extended_11 : decode cX12_extended 11 = .ok (.iconst 1, 1) := by decide +kernel
theorem dX12_extended_12 : decode cX12_extended 12 = .ok (.invokevirtual 97, 3) := by decide +kernel
theorem dX12_extended_15 : decode cX12_extended 15 = .ok (.ireturn, 1) := by decide +kernel
theorem dX12_extended_16 : decode cX12_extended 16 = .ok (.iload_n 2, 1) := by decide +kernel
theorem dX12_extended_17 : decode cX12_extended 17 = .ok (.iconst 1, 1) := by decide +kernel
theorem dX12_extended_18 : decode cX12_extended 18 = .ok (.isub, 1) := by decide +kernel
theorem dX12_extended_19 : decode cX12_extended 19 = .ok (.invokestatic 64, 3) := by decide +kernel
theorem dX12_extended_22 : decode cX12_extended 22 = .ok (.istore 5, 2) := by decide +kernel
theorem dX12_extended_24 : decode cX12_extended 24 = .ok (.iload_n 3, 1) := by decide +kernel
theorem dX12_extended_25 : decode cX12_extended 25 = .ok (.iload 5, 2) := by decide +kernel
theorem dX12_extended_27 : decode cX12_extended 27 = .ok (.idiv, 1) := by decide +kernel
theorem dX12_extended_28 : decode cX12_extended 28 = .ok (.istore 6, 2) := by decide +kernel
theorem dX12_extended_30 : decode cX12_extended 30 = .ok (.iload_n 1, 1) := by decide +kernel
theorem dX12_extended_31 : decode cX12_extended 31 = .ok (.iconst (-1), 1) := by decide +kernel
theorem dX12_extended_32 : decode cX12_extended 32 = .ok (.if_icmp .eq 17, 3) := by decide +kernel
theorem dX12_extended_35 : decode cX12_extended 35 = .ok (.iload 6, 2) := by decide +kernel
theorem dX12_extended_37 : decode cX12_extended 37 = .ok (.aload_n 0, 1) := by decide +kernel
theorem dX12_extended_38 : decode cX12_extended 38 = .ok (.iload_n 1, 1) := by decide +kernel
theorem dX12_extended_39 : decode cX12_extended 39 = .ok (.invokevirtual 79, 3) := by decide +kernel
theorem dX12_extended_42 : decode cX12_extended 42 = .ok (.if_icmp .ge 7, 3) := by decide +kernel
theorem dX12_extended_45 : decode cX12_extended 45 = .ok (.iconst 1, 1) := by decide +kernel
theorem dX12_extended_46 : decode cX12_extended 46 = .ok (.goto 4, 3) := by decide +kernel
theorem dX12_extended_49 : decode cX12_extended 49 = .ok (.iconst 0, 1) := by decide +kernel
theorem dX12_extended_50 : decode cX12_extended 50 = .ok (.istore 7, 2) := by decide +kernel
theorem dX12_extended_52 : decode cX12_extended 52 = .ok (.aload_n 0, 1) := by decide +kernel
theorem dX12_extended_53 : decode cX12_extended 53 = .ok (.iload 7, 2) := by decide +kernel
theorem dX12_extended_55 : decode cX12_extended 55 = .ok (.ifCond .eq 13, 3) := by decide +kernel
theorem dX12_extended_58 : decode cX12_extended 58 = .ok (.aload_n 0, 1) := by decide +kernel
theorem dX12_extended_59 : decode cX12_extended 59 = .ok (.iload_n 1, 1) := by decide +kernel
theorem dX12_extended_60 : decode cX12_extended 60 = .ok (.iload 6, 2) := by decide +kernel
theorem dX12_extended_62 : decode cX12_extended 62 = .ok (.invokevirtual 71, 3) := by decide +kernel
theorem dX12_extended_65 : decode cX12_extended 65 = .ok (.goto 4, 3) := by decide +kernel
theorem dX12_extended_68 : decode cX12_extended 68 = .ok (.iconst (-1), 1) := by decide +kernel
theorem dX12_extended_69 : decode cX12_extended 69 = .ok (.iload_n 2, 1) := by decide +kernel
theorem dX12_extended_70 : decode cX12_extended 70 = .ok (.iconst 1, 1) := by decide +kernel
theorem dX12_extended_71 : decode cX12_extended 71 = .ok (.isub, 1) := by decide +kernel
theorem dX12_extended_72 : decode cX12_extended 72 = .ok (.iload_n 3, 1) := by decide +kernel
theorem dX12_extended_73 : decode cX12_extended 73 = .ok (.iload 5, 2) := by decide +kernel
theorem dX12_extended_75 : decode cX12_extended 75 = .ok (.irem, 1) := by decide +kernel
theorem dX12_extended_76 : decode cX12_extended 76 = .ok (.iload 4, 2) := by decide +kernel
theorem dX12_extended_78 : decode cX12_extended 78 = .ok (.invokevirtual 105, 3) := by decide +kernel
theorem dX12_extended_81 : decode cX12_extended 81 = .ok (.istore 8, 2) := by decide +kernel
theorem dX12_extended_83 : decode cX12_extended 83 = .ok (.aload_n 0, 1) := by decide +kernel
theorem dX12_extended_84 : decode cX12_extended 84 = .ok (.iload_n 1, 1) := by decide +kernel
theorem dX12_extended_85 : decode cX12_extended 85 = .ok (.iload 6, 2) := by decide +kernel
theorem dX12_extended_87 : decode cX12_extended 87 = .ok (.iload 8, 2) := by decide +kernel
theorem dX12_extended_89 : decode cX12_extended 89 = .ok (.iconst 1, 1) := by decide +kernel
theorem dX12_extended_90 : decode cX12_extended 90 = .ok (.iconst 0, 1) := by decide +kernel
theorem dX12_extended_91 : decode cX12_extended 91 = .ok (.invokevirtual 97, 3) := by decide +kernel
theorem dX12_extended_94 : decode cX12_extended 94 = .ok (.ireturn, 1) := by decide +kernel
theorem dX12_cut_0 : decode cX12_cut 0 = .ok (.aload_n 0, 1) := by decide +kernel
theorem dX12_cut_1 : decode cX12_cut 1 = .ok (.iload_n 1, 1) := by decide +kernel
theorem dX12_cut_2 : decode cX12_cut 2 = .ok (.invokevirtual 94, 3) := by decide +kernel
theorem dX12_cut_5 : decode cX12_cut 5 = .ok (.iload_n 3, 1) := by decide +kernel
theorem dX12_cut_6 : decode cX12_cut 6 = .ok (.if_icmp .ne 5, 3) := by decide +kernel
theorem dX12_cut_9 : decode cX12_cut 9 = .ok (.iload_n 1, 1) := by decide +kernel
theorem dX12_cut_10 : decode cX12_cut 10 = .ok (.ireturn, 1) := by decide +kernel
theorem dX12_cut_11 : decode cX12_cut 11 = .ok (.iload_n 3, 1) := by decide +kernel
theorem dX12_cut_12 : decode cX12_cut 12 = .ok (.iconst 1, 1) := by decide +kernel
theorem dX12_cut_13 : decode cX12_cut 13 = .ok (.isub, 1) := by decide +kernel
theorem dX12_cut_14 : decode cX12_cut 14 = .ok (.istore 4, 2) := by decide +kernel
theorem dX12_cut_16 : decode cX12_cut 16 = .ok (.iload_n 2, 1) := by decide +kernel
theorem dX12_cut_17 : decode cX12_cut 17 = .ok (.iconst 1, 1) := by decide +kernel
theorem dX12_cut_18 : decode cX12_cut 18 = .ok (.if_icmp .ne 20, 3) := by decide +kernel
theorem dX12_cut_21 : decode cX12_cut 21 = .ok (.aload_n 0, 1) := by decide +kernel
theorem dX12_cut_22 : decode cX12_cut 22 = .ok (.iload_n 1, 1) := by decide +kernel
theorem dX12_cut_23 : decode cX12_cut 23 = .ok (.iload 4, 2) := by decide +kernel
theorem dX12_cut_25 : decode cX12_cut 25 = .ok (.aload_n 0, 1) := by decide +kernel
theorem dX12_cut_26 : decode cX12_cut 26 = .ok (.iload_n 1, 1) := by decide +kernel
theorem dX12_cut_27 : decode cX12_cut 27 = .ok (.iload 4, 2) := by decide +kernel
theorem dX12_cut_29 : decode cX12_cut 29 = .ok (.invokevirtual 71, 3) := by decide +kernel
theorem dX12_cut_32 : decode cX12_cut 32 = .ok (.iconst 1, 1) := by decide +kernel
theorem dX12_cut_33 : decode cX12_cut 33 = .ok (.iconst 1, 1) := by decide +kernel
theorem dX12_cut_34 : decode cX12_cut 34 = .ok (.invokevirtual 97, 3) := by decide +kernel
theorem dX12_cut_37 : decode cX12_cut 37 = .ok (.ireturn, 1) := by decide +kernel
theorem dX12_cut_38 : decode cX12_cut 38 = .ok (.iload_n 2, 1) := by decide +kernel
theorem dX12_cut_39 : decode cX12_cut 39 = .ok (.iconst 1, 1) := by decide +kernel
theorem dX12_cut_40 : decode cX12_cut 40 = .ok (.isub, 1) := by decide +kernel
theorem dX12_cut_41 : decode cX12_cut 41 = .ok (.invokestatic 64, 3) := by decide +kernel
theorem dX12_cut_44 : decode cX12_cut 44 = .ok (.istore 5, 2) := by decide +kernel
theorem dX12_cut_46 : decode cX12_cut 46 = .ok (.iload 4, 2) := by decide +kernel
theorem dX12_cut_48 : decode cX12_cut 48 = .ok (.iload 5, 2) := by decide +kernel
theorem dX12_cut_50 : decode cX12_cut 50 = .ok (.idiv, 1) := by decide +kernel
theorem dX12_cut_51 : decode cX12_cut 51 = .ok (.istore 6, 2) := by decide +kernel
theorem dX12_cut_53 : decode cX12_cut 53 = .ok (.aload_n 0, 1) := by decide +kernel
theorem dX12_cut_54 : decode cX12_cut 54 = .ok (.aload_n 0, 1) := by decide +kernel
theorem dX12_cut_55 : decode cX12_cut 55 = .ok (.iload_n 1, 1) := by decide +kernel
theorem dX12_cut_56 : decode cX12_cut 56 = .ok (.iload 6, 2) := by decide +kernel
theorem dX12_cut_58 : decode cX12_cut 58 = .ok (.invokevirtual 71, 3) := by decide +kernel
theorem dX12_cut_61 : decode cX12_cut 61 = .ok (.iload_n 2, 1) := by decide +kernel
theorem dX12_cut_62 : decode cX12_cut 62 = .ok (.iconst 1, 1) := by decide +kernel
theorem dX12_cut_63 : decode cX12_cut 63 = .ok (.isub, 1) := by decide +kernel
theorem dX12_cut_64 : decode cX12_cut 64 = .ok (.iload 4, 2) := by decide +kernel
theorem dX12_cut_66 : decode cX12_cut 66 = .ok (.iload 5, 2) := by decide +kernel
theorem dX12_cut_68 : decode cX12_cut 68 = .ok (.irem, 1) := by decide +kernel
theorem dX12_cut_69 : decode cX12_cut 69 = .ok (.iconst 1, 1) := by decide +kernel
theorem dX12_cut_70 : decode cX12_cut 70 = .ok (.iadd, 1) := by decide +kernel
theorem dX12_cut_71 : decode cX12_cut 71 = .ok (.invokevirtual 108, 3) := by decide +kernel
theorem dX12_cut_74 : decode cX12_cut 74 = .ok (.istore 7, 2) := by decide +kernel
theorem dX12_cut_76 : decode cX12_cut 76 = .ok (.aload_n 0, 1) := by decide +kernel
theorem dX12_cut_77 : decode cX12_cut 77 = .ok (.iload_n 1, 1) := by decide +kernel
theorem dX12_cut_78 : decode cX12_cut 78 = .ok (.iload 6, 2) := by decide +kernel
theorem dX12_cut_80 : decode cX12_cut 80 = .ok (.iload 7, 2) := by decide +kernel
theorem dX12_cut_82 : decode cX12_cut 82 = .ok (.iconst 1, 1) := by decide +kernel
theorem dX12_cut_83 : decode cX12_cut 83 = .ok (.iconst 0, 1) := by decide +kernel
theorem dX12_cut_84 : decode cX12_cut 84 = .ok (.invokevirtual 97, 3) := by decide +kernel
theorem dX12_cut_87 : decode cX12_cut 87 = .ok (.ireturn, 1) := by decide +kernel
theorem dX12_lengthOf_0 : decode cX12_lengthOf 0 = .ok (.aload_n 0, 1) := by decide +kernel
theorem dX12_lengthOf_1 : decode cX12_lengthOf 1 = .ok (.getfield 9, 3) := by decide +kernel
theorem dX12_lengthOf_4 : decode cX12_lengthOf 4 = .ok (.iload_n 1, 1) := by decide +kernel
theorem dX12_lengthOf_5 : decode cX12_lengthOf 5 = .ok (.invokestatic 112, 3) := by decide +kernel
theorem dX12_lengthOf_8 : decode cX12_lengthOf 8 = .ok (.iconst 0, 1) := by decide +kernel
theorem dX12_lengthOf_9 : decode cX12_lengthOf 9 = .ok (.iadd, 1) := by decide +kernel
theorem dX12_lengthOf_10 : decode cX12_lengthOf 10 = .ok (.iaload, 1) := by decide +kernel
theorem dX12_lengthOf_11 : decode cX12_lengthOf 11 = .ok (.ireturn, 1) := by decide +kernel
theorem dX12_root_0 : decode cX12_root 0 = .ok (.aload_n 0, 1) := by decide +kernel
theorem dX12_root_1 : decode cX12_root 1 = .ok (.getfield 9, 3) := by decide +kernel
theorem dX12_root_4 : decode cX12_root 4 = .ok (.iload_n 1, 1) := by decide +kernel
theorem dX12_root_5 : decode cX12_root 5 = .ok (.invokestatic 112, 3) := by decide +kernel
theorem dX12_root_8 : decode cX12_root 8 = .ok (.iconst 1, 1) := by decide +kernel
theorem dX12_root_9 : decode cX12_root 9 = .ok (.iadd, 1) := by decide +kernel
theorem dX12_root_10 : decode cX12_root 10 = .ok (.iaload, 1) := by decide +kernel
theorem dX12_root_11 : decode cX12_root 11 = .ok (.ireturn, 1) := by decide +kernel
theorem dX12_heightOf_0 : decode cX12_heightOf 0 = .ok (.aload_n 0, 1) := by decide +kernel
theorem dX12_heightOf_1 : decode cX12_heightOf 1 = .ok (.getfield 9, 3) := by decide +kernel
theorem dX12_heightOf_4 : decode cX12_heightOf 4 = .ok (.iload_n 1, 1) := by decide +kernel
theorem dX12_heightOf_5 : decode cX12_heightOf 5 = .ok (.invokestatic 112, 3) := by decide +kernel
theorem dX12_heightOf_8 : decode cX12_heightOf 8 = .ok (.iconst 2, 1) := by decide +kernel
theorem dX12_heightOf_9 : decode cX12_heightOf 9 = .ok (.iadd, 1) := by decide +kernel
theorem dX12_heightOf_10 : decode cX12_heightOf 10 = .ok (.iaload, 1) := by decide +kernel
theorem dX12_heightOf_11 : decode cX12_heightOf 11 = .ok (.ireturn, 1) := by decide +kernel
theorem dX12_isGone_0 : decode cX12_isGone 0 = .ok (.aload_n 0, 1) := by decide +kernel
theorem dX12_isGone_1 : decode cX12_isGone 1 = .ok (.getfield 9, 3) := by decide +kernel
theorem dX12_isGone_4 : decode cX12_isGone 4 = .ok (.iload_n 1, 1) := by decide +kernel
theorem dX12_isGone_5 : decode cX12_isGone 5 = .ok (.invokestatic 112, 3) := by decide +kernel
theorem dX12_isGone_8 : decode cX12_isGone 8 = .ok (.iconst 4, 1) := by decide +kernel
theorem dX12_isGone_9 : decode cX12_isGone 9 = .ok (.iadd, 1) := by decide +kernel
theorem dX12_isGone_10 : decode cX12_isGone 10 = .ok (.iaload, 1) := by decide +kernel
theorem dX12_isGone_11 : decode cX12_isGone 11 = .ok (.iconst 1, 1) := by decide +kernel
theorem dX12_isGone_12 : decode cX12_isGone 12 = .ok (.if_icmp .ne 7, 3) := by decide +kernel
theorem dX12_isGone_15 : decode cX12_isGone 15 = .ok (.iconst 1, 1) := by decide +kernel
theorem dX12_isGone_16 : decode cX12_isGone 16 = .ok (.goto 4, 3) := by decide +kernel
theorem dX12_isGone_19 : decode cX12_isGone 19 = .ok (.iconst 0, 1) := by decide +kernel
theorem dX12_isGone_20 : decode cX12_isGone 20 = .ok (.ireturn, 1) := by decide +kernel
theorem dX12_element_0 : decode cX12_element 0 = .ok (.aload_n 0, 1) := by decide +kernel
theorem dX12_element_1 : decode cX12_element 1 = .ok (.getfield 9, 3) := by decide +kernel
theorem dX12_element_4 : decode cX12_element 4 = .ok (.iload_n 1, 1) := by decide +kernel
theorem dX12_element_5 : decode cX12_element 5 = .ok (.invokestatic 115, 3) := by decide +kernel
theorem dX12_element_8 : decode cX12_element 8 = .ok (.iload_n 2, 1) := by decide +kernel
theorem dX12_element_9 : decode cX12_element 9 = .ok (.iadd, 1) := by decide +kernel
theorem dX12_element_10 : decode cX12_element 10 = .ok (.iaload, 1) := by decide +kernel
theorem dX12_element_11 : decode cX12_element 11 = .ok (.ireturn, 1) := by decide +kernel
theorem dX12_addVersion_0 : decode cX12_addVersion 0 = .ok (.aload_n 0, 1) := by decide +kernel
theorem dX12_addVersion_1 : decode cX12_addVersion 1 = .ok (.getfield 9, 3) := by decide +kernel
theorem dX12_addVersion_4 : decode cX12_addVersion 4 = .ok (.iconst 0, 1) := by decide +kernel
theorem dX12_addVersion_5 : decode cX12_addVersion 5 = .ok (.iaload, 1) := by decide +kernel
theorem dX12_addVersion_6 : decode cX12_addVersion 6 = .ok (.istore 5, 2) := by decide +kernel
theorem dX12_addVersion_8 : decode cX12_addVersion 8 = .ok (.iload 5, 2) := by decide +kernel
theorem dX12_addVersion_10 : decode cX12_addVersion 10 = .ok (.invokestatic 112, 3) := by decide +kernel
theorem dX12_addVersion_13 : decode cX12_addVersion 13 = .ok (.istore 6, 2) := by decide +kernel
theorem dX12_addVersion_15 : decode cX12_addVersion 15 = .ok (.aload_n 0, 1) := by decide +kernel
theorem dX12_addVersion_16 : decode cX12_addVersion 16 = .ok (.getfield 9, 3) := by decide +kernel
theorem dX12_addVersion_19 : decode cX12_addVersion 19 = .ok (.iload 6, 2) := by decide +kernel
theorem dX12_addVersion_21 : decode cX12_addVersion 21 = .ok (.iconst 0, 1) := by decide +kernel
theorem dX12_addVersion_22 : decode cX12_addVersion 22 = .ok (.iadd, 1) := by decide +kernel
theorem dX12_addVersion_23 : decode cX12_addVersion 23 = .ok (.iload_n 2, 1) := by decide +kernel
theorem dX12_addVersion_24 : decode cX12_addVersion 24 = .ok (.iastore, 1) := by decide +kernel
theorem dX12_addVersion_25 : decode cX12_addVersion 25 = .ok (.aload_n 0, 1) := by decide +kernel
theorem dX12_addVersion_26 : decode cX12_addVersion 26 = .ok (.getfield 9, 3) := by decide +kernel
theorem dX12_addVersion_29 : decode cX12_addVersion 29 = .ok (.iload 6, 2) := by decide +kernel
theorem dX12_addVersion_31 : decode cX12_addVersion 31 = .ok (.iconst 1, 1) := by decide +kernel
theorem dX12_addVersion_32 : decode cX12_addVersion 32 = .ok (.iadd, 1) := by decide +kernel
theorem dX12_addVersion_33 : decode cX12_addVersion 33 = .ok (.iload_n 3, 1) := by decide +kernel
theorem dX12_addVersion_34 : decode cX12_addVersion 34 = .ok (.iastore, 1) := by decide +kernel
theorem dX12_addVersion_35 : decode cX12_addVersion 35 = .ok (.aload_n 0, 1) := by decide +kernel
theorem dX12_addVersion_36 : decode cX12_addVersion 36 = .ok (.getfield 9, 3) := by decide +kernel
theorem dX12_addVersion_39 : decode cX12_addVersion 39 = .ok (.iload 6, 2) := by decide +kernel
theorem dX12_addVersion_41 : decode cX12_addVersion 41 = .ok (.iconst 2, 1) := by decide +kernel
theorem dX12_addVersion_42 : decode cX12_addVersion 42 = .ok (.iadd, 1) := by decide +kernel
theorem dX12_addVersion_43 : decode cX12_addVersion 43 = .ok (.iload_n 2, 1) := by decide +kernel
theorem dX12_addVersion_44 : decode cX12_addVersion 44 = .ok (.invokestatic 118, 3) := by decide +kernel
theorem dX12_addVersion_47 : decode cX12_addVersion 47 = .ok (.iastore, 1) := by decide +kernel
theorem dX12_addVersion_48 : decode cX12_addVersion 48 = .ok (.aload_n 0, 1) := by decide +kernel
theorem dX12_addVersion_49 : decode cX12_addVersion 49 = .ok (.getfield 9, 3) := by decide +kernel
theorem dX12_addVersion_52 : decode cX12_addVersion 52 = .ok (.iload 6, 2) := by decide +kernel
theorem dX12_addVersion_54 : decode cX12_addVersion 54 = .ok (.iconst 3, 1) := by decide +kernel
theorem dX12_addVersion_55 : decode cX12_addVersion 55 = .ok (.iadd, 1) := by decide +kernel
theorem dX12_addVersion_56 : decode cX12_addVersion 56 = .ok (.iload_n 1, 1) := by decide +kernel
theorem dX12_addVersion_57 : decode cX12_addVersion 57 = .ok (.iastore, 1) := by decide +kernel
theorem dX12_addVersion_58 : decode cX12_addVersion 58 = .ok (.aload_n 0, 1) := by decide +kernel
theorem dX12_addVersion_59 : decode cX12_addVersion 59 = .ok (.getfield 9, 3) := by decide +kernel
theorem dX12_addVersion_62 : decode cX12_addVersion 62 = .ok (.iload 6, 2) := by decide +kernel
theorem dX12_addVersion_64 : decode cX12_addVersion 64 = .ok (.iconst 4, 1) := by decide +kernel
theorem dX12_addVersion_65 : decode cX12_addVersion 65 = .ok (.iadd, 1) := by decide +kernel
theorem dX12_addVersion_66 : decode cX12_addVersion 66 = .ok (.iconst 0, 1) := by decide +kernel
theorem dX12_addVersion_67 : decode cX12_addVersion 67 = .ok (.iastore, 1) := by decide +kernel
theorem dX12_addVersion_68 : decode cX12_addVersion 68 = .ok (.aload_n 0, 1) := by decide +kernel
theorem dX12_addVersion_69 : decode cX12_addVersion 69 = .ok (.getfield 9, 3) := by decide +kernel
theorem dX12_addVersion_72 : decode cX12_addVersion 72 = .ok (.iload 6, 2) := by decide +kernel
theorem dX12_addVersion_74 : decode cX12_addVersion 74 = .ok (.iconst 5, 1) := by decide +kernel
theorem dX12_addVersion_75 : decode cX12_addVersion 75 = .ok (.iadd, 1) := by decide +kernel
theorem dX12_addVersion_76 : decode cX12_addVersion 76 = .ok (.aload_n 0, 1) := by decide +kernel
theorem dX12_addVersion_77 : decode cX12_addVersion 77 = .ok (.getfield 9, 3) := by decide +kernel
theorem dX12_addVersion_80 : decode cX12_addVersion 80 = .ok (.iconst 1, 1) := by decide +kernel
theorem dX12_addVersion_81 : decode cX12_addVersion 81 = .ok (.iaload, 1) := by decide +kernel
theorem dX12_addVersion_82 : decode cX12_addVersion 82 = .ok (.iload 4, 2) := by decide +kernel
theorem dX12_addVersion_84 : decode cX12_addVersion 84 = .ok (.isub, 1) := by decide +kernel
theorem dX12_addVersion_85 : decode cX12_addVersion 85 = .ok (.iastore, 1) := by decide +kernel
theorem dX12_addVersion_86 : decode cX12_addVersion 86 = .ok (.iconst 0, 1) := by decide +kernel
theorem dX12_addVersion_87 : decode cX12_addVersion 87 = .ok (.istore 7, 2) := by decide +kernel
theorem dX12_addVersion_89 : decode cX12_addVersion 89 = .ok (.iload 7, 2) := by decide +kernel
theorem dX12_addVersion_91 : decode cX12_addVersion 91 = .ok (.bipush 64, 2) := by decide +kernel
theorem dX12_addVersion_93 : decode cX12_addVersion 93 = .ok (.if_icmp .ge 64, 3) := by decide +kernel
theorem dX12_addVersion_96 : decode cX12_addVersion 96 = .ok (.iload_n 1, 1) := by decide +kernel
theorem dX12_addVersion_97 : decode cX12_addVersion 97 = .ok (.iconst (-1), 1) := by decide +kernel
theorem dX12_addVersion_98 : decode cX12_addVersion 98 = .ok (.if_icmp .eq 21, 3) := by decide +kernel
theorem dX12_addVersion_101 : decode cX12_addVersion 101 = .ok (.iload 7, 2) := by decide +kernel
theorem dX12_addVersion_103 : decode cX12_addVersion 103 = .ok (.iload_n 2, 1) := by decide +kernel
theorem dX12_addVersion_104 : decode cX12_addVersion 104 = .ok (.aload_n 0, 1) := by decide +kernel
theorem dX12_addVersion_105 : decode cX12_addVersion 105 = .ok (.iload_n 1, 1) := by decide +kernel
theorem dX12_addVersion_106 : decode cX12_addVersion 106 = .ok (.invokevirtual 121, 3) := by decide +kernel
theorem dX12_addVersion_109 : decode cX12_addVersion 109 = .ok (.invokestatic 124, 3) := by decide +kernel
theorem dX12_addVersion_112 : decode cX12_addVersion 112 = .ok (.if_icmp .ge 7, 3) := by decide +kernel
theorem dX12_addVersion_115 : decode cX12_addVersion 115 = .ok (.iconst 1, 1) := by decide +kernel
theorem dX12_addVersion_116 : decode cX12_addVersion 116 = .ok (.goto 4, 3) := by decide +kernel
theorem dX12_addVersion_119 : decode cX12_addVersion 119 = .ok (.iconst 0, 1) := by decide +kernel
theorem dX12_addVersion_120 : decode cX12_addVersion 120 = .ok (.istore 8, 2) := by decide +kernel
theorem dX12_addVersion_122 : decode cX12_addVersion 122 = .ok (.aload_n 0, 1) := by decide +kernel
theorem dX12_addVersion_123 : decode cX12_addVersion 123 = .ok (.getfield 9, 3) := by decide +kernel
theorem dX12_addVersion_126 : decode cX12_addVersion 126 = .ok (.iload 5, 2) := by decide +kernel
theorem dX12_addVersion_128 : decode cX12_addVersion 128 = .ok (.invokestatic 115, 3) := by decide +kernel
theorem dX12_addVersion_131 : decode cX12_addVersion 131 = .ok (.iload 7, 2) := by decide +kernel
theorem dX12_addVersion_133 : decode cX12_addVersion 133 = .ok (.iadd, 1) := by decide +kernel
theorem dX12_addVersion_134 : decode cX12_addVersion 134 = .ok (.iload 8, 2) := by decide +kernel
theorem dX12_addVersion_136 : decode cX12_addVersion 136 = .ok (.ifCond .eq 13, 3) := by decide +kernel
theorem dX12_addVersion_139 : decode cX12_addVersion 139 = .ok (.aload_n 0, 1) := by decide +kernel
theorem dX12_addVersion_140 : decode cX12_addVersion 140 = .ok (.iload_n 1, 1) := by decide +kernel
theorem dX12_addVersion_141 : decode cX12_addVersion 141 = .ok (.iload 7, 2) := by decide +kernel
theorem dX12_addVersion_143 : decode cX12_addVersion 143 = .ok (.invokevirtual 129, 3) := by decide +kernel
theorem dX12_addVersion_146 : decode cX12_addVersion 146 = .ok (.goto 4, 3) := by decide +kernel
theorem dX12_addVersion_149 : decode cX12_addVersion 149 = .ok (.iconst 0, 1) := by decide +kernel
theorem dX12_addVersion_150 : decode cX12_addVersion 150 = .ok (.iastore, 1) := by decide +kernel
theorem dX12_addVersion_151 : decode cX12_addVersion 151 = .ok (.iinc 7 1, 3) := by decide +kernel
theorem dX12_addVersion_154 : decode cX12_addVersion 154 = .ok (.goto (-65), 3) := by decide +kernel
theorem dX12_addVersion_157 : decode cX12_addVersion 157 = .ok (.aload_n 0, 1) := by decide +kernel
theorem dX12_addVersion_158 : decode cX12_addVersion 158 = .ok (.getfield 9, 3) := by decide +kernel
theorem dX12_addVersion_161 : decode cX12_addVersion 161 = .ok (.iconst 0, 1) := by decide +kernel
theorem dX12_addVersion_162 : decode cX12_addVersion 162 = .ok (.dup2, 1) := by decide +kernel
theorem dX12_addVersion_163 : decode cX12_addVersion 163 = .ok (.iaload, 1) := by decide +kernel
theorem dX12_addVersion_164 : decode cX12_addVersion 164 = .ok (.iconst 1, 1) := by decide +kernel
theorem dX12_addVersion_165 : decode cX12_addVersion 165 = .ok (.iadd, 1) := by decide +kernel
theorem dX12_addVersion_166 : decode cX12_addVersion 166 = .ok (.iastore, 1) := by decide +kernel
theorem dX12_addVersion_167 : decode cX12_addVersion 167 = .ok (.iload 5, 2) := by decide +kernel
theorem dX12_addVersion_169 : decode cX12_addVersion 169 = .ok (.ireturn, 1) := by decide +kernel
theorem dX12_makeLeaves_0 : decode cX12_makeLeaves 0 = .ok (.iconst 0, 1) := by decide +kernel
theorem dX12_makeLeaves_1 : decode cX12_makeLeaves 1 = .ok (.istore_n 1, 1) := by decide +kernel
theorem dX12_makeLeaves_2 : decode cX12_makeLeaves 2 = .ok (.iconst 0, 1) := by decide +kernel
theorem dX12_makeLeaves_3 : decode cX12_makeLeaves 3 = .ok (.istore_n 2, 1) := by decide +kernel
theorem dX12_makeLeaves_4 : decode cX12_makeLeaves 4 = .ok (.iload_n 2, 1) := by decide +kernel
theorem dX12_makeLeaves_5 : decode cX12_makeLeaves 5 = .ok (.aload_n 0, 1) := by decide +kernel
theorem dX12_makeLeaves_6 : decode cX12_makeLeaves 6 = .ok (.getfield 52, 3) := by decide +kernel
theorem dX12_makeLeaves_9 : decode cX12_makeLeaves 9 = .ok (.if_icmp .ge 66, 3) := by decide +kernel
theorem dX12_makeLeaves_12 : decode cX12_makeLeaves 12 = .ok (.iconst 4, 1) := by decide +kernel
theorem dX12_makeLeaves_13 : decode cX12_makeLeaves 13 = .ok (.aload_n 0, 1) := by decide +kernel
theorem dX12_makeLeaves_14 : decode cX12_makeLeaves 14 = .ok (.getfield 52, 3) := by decide +kernel
theorem dX12_makeLeaves_17 : decode cX12_makeLeaves 17 = .ok (.iload_n 2, 1) := by decide +kernel
theorem dX12_makeLeaves_18 : decode cX12_makeLeaves 18 = .ok (.isub, 1) := by decide +kernel
theorem dX12_makeLeaves_19 : decode cX12_makeLeaves 19 = .ok (.invokestatic 124, 3) := by decide +kernel
theorem dX12_makeLeaves_22 : decode cX12_makeLeaves 22 = .ok (.istore_n 3, 1) := by decide +kernel
theorem dX12_makeLeaves_23 : decode cX12_makeLeaves 23 = .ok (.iconst 0, 1) := by decide +kernel
theorem dX12_makeLeaves_24 : decode cX12_makeLeaves 24 = .ok (.istore 4, 2) := by decide +kernel
theorem dX12_makeLeaves_26 : decode cX12_makeLeaves 26 = .ok (.iload 4, 2) := by decide +kernel
theorem dX12_makeLeaves_28 : decode cX12_makeLeaves 28 = .ok (.iload_n 3, 1) := by decide +kernel
theorem dX12_makeLeaves_29 : decode cX12_makeLeaves 29 = .ok (.if_icmp .ge 25, 3) := by decide +kernel
theorem dX12_makeLeaves_32 : decode cX12_makeLeaves 32 = .ok (.aload_n 0, 1) := by decide +kernel
theorem dX12_makeLeaves_33 : decode cX12_makeLeaves 33 = .ok (.getfield 23, 3) := by decide +kernel
theorem dX12_makeLeaves_36 : decode cX12_makeLeaves 36 = .ok (.iload 4, 2) := by decide +kernel
theorem dX12_makeLeaves_38 : decode cX12_makeLeaves 38 = .ok (.aload_n 0, 1) := by decide +kernel
theorem dX12_makeLeaves_39 : decode cX12_makeLeaves 39 = .ok (.getfield 26, 3) := by decide +kernel
theorem dX12_makeLeaves_42 : decode cX12_makeLeaves 42 = .ok (.iload_n 2, 1) := by decide +kernel
theorem dX12_makeLeaves_43 : decode cX12_makeLeaves 43 = .ok (.iload 4, 2) := by decide +kernel
theorem dX12_makeLeaves_45 : decode cX12_makeLeaves 45 = .ok (.iadd, 1) := by decide +kernel
theorem dX12_makeLeaves_46 : decode cX12_makeLeaves 46 = .ok (.iaload, 1) := by decide +kernel
theorem dX12_makeLeaves_47 : decode cX12_makeLeaves 47 = .ok (.iastore, 1) := by decide +kernel
theorem dX12_makeLeaves_48 : decode cX12_makeLeaves 48 = .ok (.iinc 4 1, 3) := by decide +kernel
theorem dX12_makeLeaves_51 : decode cX12_makeLeaves 51 = .ok (.goto (-25), 3) := by decide +kernel
theorem dX12_makeLeaves_54 : decode cX12_makeLeaves 54 = .ok (.aload_n 0, 1) := by decide +kernel
theorem dX12_makeLeaves_55 : decode cX12_makeLeaves 55 = .ok (.getfield 29, 3) := by decide +kernel
theorem dX12_makeLeaves_58 : decode cX12_makeLeaves 58 = .ok (.iload_n 1, 1) := by decide +kernel
theorem dX12_makeLeaves_59 : decode cX12_makeLeaves 59 = .ok (.aload_n 0, 1) := by decide +kernel
theorem dX12_makeLeaves_60 : decode cX12_makeLeaves 60 = .ok (.iconst 1, 1) := by decide +kernel
theorem dX12_makeLeaves_61 : decode cX12_makeLeaves 61 = .ok (.iload_n 3, 1) := by decide +kernel
theorem dX12_makeLeaves_62 : decode cX12_makeLeaves 62 = .ok (.invokevirtual 86, 3) := by decide +kernel
theorem dX12_makeLeaves_65 : decode cX12_makeLeaves 65 = .ok (.iastore, 1) := by decide +kernel
theorem dX12_makeLeaves_66 : decode cX12_makeLeaves 66 = .ok (.iinc 1 1, 3) := by decide +kernel
theorem dX12_makeLeaves_69 : decode cX12_makeLeaves 69 = .ok (.iinc 2 4, 3) := by decide +kernel
theorem dX12_makeLeaves_72 : decode cX12_makeLeaves 72 = .ok (.goto (-68), 3) := by decide +kernel
theorem dX12_makeLeaves_75 : decode cX12_makeLeaves 75 = .ok (.iload_n 1, 1) := by decide +kernel
theorem dX12_makeLeaves_76 : decode cX12_makeLeaves 76 = .ok (.ireturn, 1) := by decide +kernel
theorem dX12_makeLevel_0 : decode cX12_makeLevel 0 = .ok (.iconst 0, 1) := by decide +kernel
theorem dX12_makeLevel_1 : decode cX12_makeLevel 1 = .ok (.istore_n 2, 1) := by decide +kernel
theorem dX12_makeLevel_2 : decode cX12_makeLevel 2 = .ok (.iconst 0, 1) := by decide +kernel
theorem dX12_makeLevel_3 : decode cX12_makeLevel 3 = .ok (.istore_n 3, 1) := by decide +kernel
theorem dX12_makeLevel_4 : decode cX12_makeLevel 4 = .ok (.iload_n 3, 1) := by decide +kernel
theorem dX12_makeLevel_5 : decode cX12_makeLevel 5 = .ok (.iload_n 1, 1) := by decide +kernel
theorem dX12_makeLevel_6 : decode cX12_makeLevel 6 = .ok (.if_icmp .ge 66, 3) := by decide +kernel
theorem dX12_makeLevel_9 : decode cX12_makeLevel 9 = .ok (.iconst 4, 1) := by decide +kernel
theorem dX12_makeLevel_10 : decode cX12_makeLevel 10 = .ok (.iload_n 1, 1) := by decide +kernel
theorem dX12_makeLevel_11 : decode cX12_makeLevel 11 = .ok (.iload_n 3, 1) := by decide +kernel
theorem dX12_makeLevel_12 : decode cX12_makeLevel 12 = .ok (.isub, 1) := by decide +kernel
theorem dX12_makeLevel_13 : decode cX12_makeLevel 13 = .ok (.invokestatic 124, 3) := by decide +kernel
theorem dX12_makeLevel_16 : decode cX12_makeLevel 16 = .ok (.istore 4, 2) := by decide +kernel
theorem dX12_makeLevel_18 : decode cX12_makeLevel 18 = .ok (.iconst 0, 1) := by decide +kernel
theorem dX12_makeLevel_19 : decode cX12_makeLevel 19 = .ok (.istore 5, 2) := by decide +kernel
theorem dX12_makeLevel_21 : decode cX12_makeLevel 21 = .ok (.iload 5, 2) := by decide +kernel
theorem dX12_makeLevel_23 : decode cX12_makeLevel 23 = .ok (.iload 4, 2) := by decide +kernel
theorem dX12_makeLevel_25 : decode cX12_makeLevel 25 = .ok (.if_icmp .ge 25, 3) := by decide +kernel
theorem dX12_makeLevel_28 : decode cX12_makeLevel 28 = .ok (.aload_n 0, 1) := by decide +kernel
theorem dX12_makeLevel_29 : decode cX12_makeLevel 29 = .ok (.getfield 23, 3) := by decide +kernel
theorem dX12_makeLevel_32 : decode cX12_makeLevel 32 = .ok (.iload 5, 2) := by decide +kernel
theorem dX12_makeLevel_34 : decode cX12_makeLevel 34 = .ok (.aload_n 0, 1) := by decide +kernel
theorem dX12_makeLevel_35 : decode cX12_makeLevel 35 = .ok (.getfield 29, 3) := by decide +kernel
theorem dX12_makeLevel_38 : decode cX12_makeLevel 38 = .ok (.iload_n 3, 1) := by decide +kernel
theorem dX12_makeLevel_39 : decode cX12_makeLevel 39 = .ok (.iload 5, 2) := by decide +kernel
theorem dX12_makeLevel_41 : decode cX12_makeLevel 41 = .ok (.iadd, 1) := by decide +kernel
theorem dX12_makeLevel_42 : decode cX12_makeLevel 42 = .ok (.iaload, 1) := by decide +kernel
theorem dX12_makeLevel_43 : decode cX12_makeLevel 43 = .ok (.iastore, 1) := by decide +kernel
theorem dX12_makeLevel_44 : decode cX12_makeLevel 44 = .ok (.iinc 5 1, 3) := by decide +kernel
theorem dX12_makeLevel_47 : decode cX12_makeLevel 47 = .ok (.goto (-26), 3) := by decide +kernel
theorem dX12_makeLevel_50 : decode cX12_makeLevel 50 = .ok (.aload_n 0, 1) := by decide +kernel
theorem dX12_makeLevel_51 : decode cX12_makeLevel 51 = .ok (.getfield 29, 3) := by decide +kernel
theorem dX12_makeLevel_54 : decode cX12_makeLevel 54 = .ok (.iload_n 2, 1) := by decide +kernel
theorem dX12_makeLevel_55 : decode cX12_makeLevel 55 = .ok (.aload_n 0, 1) := by decide +kernel
theorem dX12_makeLevel_56 : decode cX12_makeLevel 56 = .ok (.iconst 0, 1) := by decide +kernel
theorem dX12_makeLevel_57 : decode cX12_makeLevel 57 = .ok (.iload 4, 2) := by decide +kernel
theorem dX12_makeLevel_59 : decode cX12_makeLevel 59 = .ok (.invokevirtual 86, 3) := by decide +kernel
theorem dX12_makeLevel_62 : decode cX12_makeLevel 62 = .ok (.iastore, 1) := by decide +kernel
theorem dX12_makeLevel_63 : decode cX12_makeLevel 63 = .ok (.iinc 2 1, 3) := by decide +kernel
theorem dX12_makeLevel_66 : decode cX12_makeLevel 66 = .ok (.iinc 3 4, 3) := by decide +kernel
theorem dX12_makeLevel_69 : decode cX12_makeLevel 69 = .ok (.goto (-65), 3) := by decide +kernel
theorem dX12_makeLevel_72 : decode cX12_makeLevel 72 = .ok (.iload_n 2, 1) := by decide +kernel
theorem dX12_makeLevel_73 : decode cX12_makeLevel 73 = .ok (.ireturn, 1) := by decide +kernel
theorem dX12_begin_0 : decode cX12_begin 0 = .ok (.aload_n 0, 1) := by decide +kernel
theorem dX12_begin_1 : decode cX12_begin 1 = .ok (.invokevirtual 132, 3) := by decide +kernel
theorem dX12_begin_4 : decode cX12_begin 4 = .ok (.aload_n 0, 1) := by decide +kernel
theorem dX12_begin_5 : decode cX12_begin 5 = .ok (.invokevirtual 135, 3) := by decide +kernel
theorem dX12_begin_8 : decode cX12_begin 8 = .ok (.istore_n 1, 1) := by decide +kernel
theorem dX12_begin_9 : decode cX12_begin 9 = .ok (.iload_n 1, 1) := by decide +kernel
theorem dX12_begin_10 : decode cX12_begin 10 = .ok (.iconst 1, 1) := by decide +kernel
theorem dX12_begin_11 : decode cX12_begin 11 = .ok (.if_icmp .le 12, 3) := by decide +kernel
theorem dX12_begin_14 : decode cX12_begin 14 = .ok (.aload_n 0, 1) := by decide +kernel
theorem dX12_begin_15 : decode cX12_begin 15 = .ok (.iload_n 1, 1) := by decide +kernel
theorem dX12_begin_16 : decode cX12_begin 16 = .ok (.invokevirtual 139, 3) := by decide +kernel
theorem dX12_begin_19 : decode cX12_begin 19 = .ok (.istore_n 1, 1) := by decide +kernel
theorem dX12_begin_20 : decode cX12_begin 20 = .ok (.goto (-11), 3) := by decide +kernel
theorem dX12_begin_23 : decode cX12_begin 23 = .ok (.aload_n 0, 1) := by decide +kernel
theorem dX12_begin_24 : decode cX12_begin 24 = .ok (.iconst (-1), 1) := by decide +kernel
theorem dX12_begin_25 : decode cX12_begin 25 = .ok (.aload_n 0, 1) := by decide +kernel
theorem dX12_begin_26 : decode cX12_begin 26 = .ok (.getfield 52, 3) := by decide +kernel
theorem dX12_begin_29 : decode cX12_begin 29 = .ok (.iload_n 1, 1) := by decide +kernel
theorem dX12_begin_30 : decode cX12_begin 30 = .ok (.ifCond .ne 7, 3) := by decide +kernel
theorem dX12_begin_33 : decode cX12_begin 33 = .ok (.iconst (-1), 1) := by decide +kernel
theorem dX12_begin_34 : decode cX12_begin 34 = .ok (.goto 9, 3) := by decide +kernel
theorem dX12_begin_37 : decode cX12_begin 37 = .ok (.aload_n 0, 1) := by decide +kernel
theorem dX12_begin_38 : decode cX12_begin 38 = .ok (.getfield 29, 3) := by decide +kernel
theorem dX12_begin_41 : decode cX12_begin 41 = .ok (.iconst 0, 1) := by decide +kernel
theorem dX12_begin_42 : decode cX12_begin 42 = .ok (.iaload, 1) := by decide +kernel
theorem dX12_begin_43 : decode cX12_begin 43 = .ok (.iconst 0, 1) := by decide +kernel
theorem dX12_begin_44 : decode cX12_begin 44 = .ok (.invokevirtual 142, 3) := by decide +kernel
theorem dX12_begin_47 : decode cX12_begin 47 = .ok (.istore_n 2, 1) := by decide +kernel
theorem dX12_begin_48 : decode cX12_begin 48 = .ok (.iconst 0, 1) := by decide +kernel
theorem dX12_begin_49 : decode cX12_begin 49 = .ok (.istore_n 3, 1) := by decide +kernel
theorem dX12_begin_50 : decode cX12_begin 50 = .ok (.iload_n 3, 1) := by decide +kernel
theorem dX12_begin_51 : decode cX12_begin 51 = .ok (.aload_n 0, 1) := by decide +kernel
theorem dX12_begin_52 : decode cX12_begin 52 = .ok (.getfield 52, 3) := by decide +kernel
theorem dX12_begin_55 : decode cX12_begin 55 = .ok (.if_icmp .ge 26, 3) := by decide +kernel
theorem dX12_begin_58 : decode cX12_begin 58 = .ok (.aload_n 0, 1) := by decide +kernel
theorem dX12_begin_59 : decode cX12_begin 59 = .ok (.getfield 9, 3) := by decide +kernel
theorem dX12_begin_62 : decode cX12_begin 62 = .ok (.iload_n 2, 1) := by decide +kernel
theorem dX12_begin_63 : decode cX12_begin 63 = .ok (.invokestatic 115, 3) := by decide +kernel
theorem dX12_begin_66 : decode cX12_begin 66 = .ok (.iload_n 3, 1) := by decide +kernel
theorem dX12_begin_67 : decode cX12_begin 67 = .ok (.iadd, 1) := by decide +kernel
theorem dX12_begin_68 : decode cX12_begin 68 = .ok (.aload_n 0, 1) := by decide +kernel
theorem dX12_begin_69 : decode cX12_begin 69 = .ok (.getfield 26, 3) := by decide +kernel
theorem dX12_begin_72 : decode cX12_begin 72 = .ok (.iload_n 3, 1) := by decide +kernel
theorem dX12_begin_73 : decode cX12_begin 73 = .ok (.iaload, 1) := by decide +kernel
theorem dX12_begin_74 : decode cX12_begin 74 = .ok (.iastore, 1) := by decide +kernel
theorem dX12_begin_75 : decode cX12_begin 75 = .ok (.iinc 3 1, 3) := by decide +kernel
theorem dX12_begin_78 : decode cX12_begin 78 = .ok (.goto (-28), 3) := by decide +kernel
theorem dX12_begin_81 : decode cX12_begin 81 = .ok (.return_, 1) := by decide +kernel
theorem dX12_makeSet_0 : decode cX12_makeSet 0 = .ok (.aload_n 0, 1) := by decide +kernel
theorem dX12_makeSet_1 : decode cX12_makeSet 1 = .ok (.getfield 9, 3) := by decide +kernel
theorem dX12_makeSet_4 : decode cX12_makeSet 4 = .ok (.iconst 1, 1) := by decide +kernel
theorem dX12_makeSet_5 : decode cX12_makeSet 5 = .ok (.iaload, 1) := by decide +kernel
theorem dX12_makeSet_6 : decode cX12_makeSet 6 = .ok (.istore 4, 2) := by decide +kernel
theorem dX12_makeSet_8 : decode cX12_makeSet 8 = .ok (.aload_n 0, 1) := by decide +kernel
theorem dX12_makeSet_9 : decode cX12_makeSet 9 = .ok (.iload_n 1, 1) := by decide +kernel
theorem dX12_makeSet_10 : decode cX12_makeSet 10 = .ok (.iload_n 2, 1) := by decide +kernel
theorem dX12_makeSet_11 : decode cX12_makeSet 11 = .ok (.invokevirtual 129, 3) := by decide +kernel
theorem dX12_makeSet_14 : decode cX12_makeSet 14 = .ok (.iload_n 3, 1) := by decide +kernel
theorem dX12_makeSet_15 : decode cX12_makeSet 15 = .ok (.if_icmp .ne 7, 3) := by decide +kernel
theorem dX12_makeSet_18 : decode cX12_makeSet 18 = .ok (.iconst 1, 1) := by decide +kernel
theorem dX12_makeSet_19 : decode cX12_makeSet 19 = .ok (.goto 4, 3) := by decide +kernel
theorem dX12_makeSet_22 : decode cX12_makeSet 22 = .ok (.iconst 0, 1) := by decide +kernel
theorem dX12_makeSet_23 : decode cX12_makeSet 23 = .ok (.istore 5, 2) := by decide +kernel
theorem dX12_makeSet_25 : decode cX12_makeSet 25 = .ok (.iload 5, 2) := by decide +kernel
theorem dX12_makeSet_27 : decode cX12_makeSet 27 = .ok (.ifCond .eq 11, 3) := by decide +kernel
theorem dX12_makeSet_30 : decode cX12_makeSet 30 = .ok (.aload_n 0, 1) := by decide +kernel
theorem dX12_makeSet_31 : decode cX12_makeSet 31 = .ok (.iload_n 1, 1) := by decide +kernel
theorem dX12_makeSet_32 : decode cX12_makeSet 32 = .ok (.invokevirtual 145, 3) := by decide +kernel
theorem dX12_makeSet_35 : decode cX12_makeSet 35 = .ok (.goto 19, 3) := by decide +kernel
theorem dX12_makeSet_38 : decode cX12_makeSet 38 = .ok (.aload_n 0, 1) := by decide +kernel
theorem dX12_makeSet_39 : decode cX12_makeSet 39 = .ok (.aload_n 0, 1) := by decide +kernel
theorem dX12_makeSet_40 : decode cX12_makeSet 40 = .ok (.iload_n 1, 1) := by decide +kernel
theorem dX12_makeSet_41 : decode cX12_makeSet 41 = .ok (.invokevirtual 145, 3) := by decide +kernel
theorem dX12_makeSet_44 : decode cX12_makeSet 44 = .ok (.aload_n 0, 1) := by decide +kernel
theorem dX12_makeSet_45 : decode cX12_makeSet 45 = .ok (.iload_n 1, 1) := by decide +kernel
theorem dX12_makeSet_46 : decode cX12_makeSet 46 = .ok (.invokevirtual 148, 3) := by decide +kernel
theorem dX12_makeSet_49 : decode cX12_makeSet 49 = .ok (.iload_n 2, 1) := by decide +kernel
theorem dX12_makeSet_50 : decode cX12_makeSet 50 = .ok (.iload_n 3, 1) := by decide +kernel
theorem dX12_makeSet_51 : decode cX12_makeSet 51 = .ok (.invokevirtual 101, 3) := by decide +kernel
theorem dX12_makeSet_54 : decode cX12_makeSet 54 = .ok (.istore 6, 2) := by decide +kernel
theorem dX12_makeSet_56 : decode cX12_makeSet 56 = .ok (.aload_n 0, 1) := by decide +kernel
theorem dX12_makeSet_57 : decode cX12_makeSet 57 = .ok (.iload_n 1, 1) := by decide +kernel
theorem dX12_makeSet_58 : decode cX12_makeSet 58 = .ok (.aload_n 0, 1) := by decide +kernel
theorem dX12_makeSet_59 : decode cX12_makeSet 59 = .ok (.iload_n 1, 1) := by decide +kernel
theorem dX12_makeSet_60 : decode cX12_makeSet 60 = .ok (.invokevirtual 121, 3) := by decide +kernel
theorem dX12_makeSet_63 : decode cX12_makeSet 63 = .ok (.iload 6, 2) := by decide +kernel
theorem dX12_makeSet_65 : decode cX12_makeSet 65 = .ok (.iload 4, 2) := by decide +kernel
theorem dX12_makeSet_67 : decode cX12_makeSet 67 = .ok (.invokevirtual 142, 3) := by decide +kernel
theorem dX12_makeSet_70 : decode cX12_makeSet 70 = .ok (.istore 7, 2) := by decide +kernel
theorem dX12_makeSet_72 : decode cX12_makeSet 72 = .ok (.aload_n 0, 1) := by decide +kernel
theorem dX12_makeSet_73 : decode cX12_makeSet 73 = .ok (.getfield 9, 3) := by decide +kernel
theorem dX12_makeSet_76 : decode cX12_makeSet 76 = .ok (.iload 7, 2) := by decide +kernel
theorem dX12_makeSet_78 : decode cX12_makeSet 78 = .ok (.invokestatic 115, 3) := by decide +kernel
theorem dX12_makeSet_81 : decode cX12_makeSet 81 = .ok (.iload_n 2, 1) := by decide +kernel
theorem dX12_makeSet_82 : decode cX12_makeSet 82 = .ok (.iadd, 1) := by decide +kernel
theorem dX12_makeSet_83 : decode cX12_makeSet 83 = .ok (.iload_n 3, 1) := by decide +kernel
theorem dX12_makeSet_84 : decode cX12_makeSet 84 = .ok (.iastore, 1) := by decide +kernel
theorem dX12_makeSet_85 : decode cX12_makeSet 85 = .ok (.iload 7, 2) := by decide +kernel
theorem dX12_makeSet_87 : decode cX12_makeSet 87 = .ok (.ireturn, 1) := by decide +kernel
theorem dX12_grownRoot_0 : decode cX12_grownRoot 0 = .ok (.aload_n 0, 1) := by decide +kernel
theorem dX12_grownRoot_1 : decode cX12_grownRoot 1 = .ok (.iload_n 1, 1) := by decide +kernel
theorem dX12_grownRoot_2 : decode cX12_grownRoot 2 = .ok (.invokevirtual 121, 3) := by decide +kernel
theorem dX12_grownRoot_5 : decode cX12_grownRoot 5 = .ok (.istore_n 3, 1) := by decide +kernel
theorem dX12_grownRoot_6 : decode cX12_grownRoot 6 = .ok (.aload_n 0, 1) := by decide +kernel
theorem dX12_grownRoot_7 : decode cX12_grownRoot 7 = .ok (.iload_n 1, 1) := by decide +kernel
theorem dX12_grownRoot_8 : decode cX12_grownRoot 8 = .ok (.invokevirtual 148, 3) := by decide +kernel
theorem dX12_grownRoot_11 : decode cX12_grownRoot 11 = .ok (.istore 4, 2) := by decide +kernel
theorem dX12_grownRoot_13 : decode cX12_grownRoot 13 = .ok (.iload_n 3, 1) := by decide +kernel
theorem dX12_grownRoot_14 : decode cX12_grownRoot 14 = .ok (.ifCond .ne 12, 3) := by decide +kernel
theorem dX12_grownRoot_17 : decode cX12_grownRoot 17 = .ok (.aload_n 0, 1) := by decide +kernel
theorem dX12_grownRoot_18 : decode cX12_grownRoot 18 = .ok (.iconst (-1), 1) := by decide +kernel
theorem dX12_grownRoot_19 : decode cX12_grownRoot 19 = .ok (.iconst 1, 1) := by decide +kernel
theorem dX12_grownRoot_20 : decode cX12_grownRoot 20 = .ok (.iconst 0, 1) := by decide +kernel
theorem dX12_grownRoot_21 : decode cX12_grownRoot 21 = .ok (.iload_n 2, 1) := by decide +kernel
theorem dX12_grownRoot_22 : decode cX12_grownRoot 22 = .ok (.invokevirtual 105, 3) := by decide +kernel
theorem dX12_grownRoot_25 : decode cX12_grownRoot 25 = .ok (.ireturn, 1) := by decide +kernel
theorem dX12_grownRoot_26 : decode cX12_grownRoot 26 = .ok (.iload_n 3, 1) := by decide +kernel
theorem dX12_grownRoot_27 : decode cX12_grownRoot 27 = .ok (.iload 4, 2) := by decide +kernel
theorem dX12_grownRoot_29 : decode cX12_grownRoot 29 = .ok (.invokestatic 64, 3) := by decide +kernel
theorem dX12_grownRoot_32 : decode cX12_grownRoot 32 = .ok (.if_icmp .ge 17, 3) := by decide +kernel
theorem dX12_grownRoot_35 : decode cX12_grownRoot 35 = .ok (.aload_n 0, 1) := by decide +kernel
theorem dX12_grownRoot_36 : decode cX12_grownRoot 36 = .ok (.aload_n 0, 1) := by decide +kernel
theorem dX12_grownRoot_37 : decode cX12_grownRoot 37 = .ok (.iload_n 1, 1) := by decide +kernel
theorem dX12_grownRoot_38 : decode cX12_grownRoot 38 = .ok (.invokevirtual 145, 3) := by decide +kernel
theorem dX12_grownRoot_41 : decode cX12_grownRoot 41 = .ok (.iload 4, 2) := by decide +kernel
theorem dX12_grownRoot_43 : decode cX12_grownRoot 43 = .ok (.iload_n 3, 1) := by decide +kernel
theorem dX12_grownRoot_44 : decode cX12_grownRoot 44 = .ok (.iload_n 2, 1) := by decide +kernel
theorem dX12_grownRoot_45 : decode cX12_grownRoot 45 = .ok (.invokevirtual 105, 3) := by decide +kernel
theorem dX12_grownRoot_48 : decode cX12_grownRoot 48 = .ok (.ireturn, 1) := by decide +kernel
theorem dX12_grownRoot_49 : decode cX12_grownRoot 49 = .ok (.aload_n 0, 1) := by decide +kernel
theorem dX12_grownRoot_50 : decode cX12_grownRoot 50 = .ok (.iconst (-1), 1) := by decide +kernel
theorem dX12_grownRoot_51 : decode cX12_grownRoot 51 = .ok (.iload 4, 2) := by decide +kernel
theorem dX12_grownRoot_53 : decode cX12_grownRoot 53 = .ok (.iconst 0, 1) := by decide +kernel
theorem dX12_grownRoot_54 : decode cX12_grownRoot 54 = .ok (.iload_n 2, 1) := by decide +kernel
theorem dX12_grownRoot_55 : decode cX12_grownRoot 55 = .ok (.invokevirtual 105, 3) := by decide +kernel
theorem dX12_grownRoot_58 : decode cX12_grownRoot 58 = .ok (.istore 5, 2) := by decide +kernel
theorem dX12_grownRoot_60 : decode cX12_grownRoot 60 = .ok (.aload_n 0, 1) := by decide +kernel
theorem dX12_grownRoot_61 : decode cX12_grownRoot 61 = .ok (.getfield 23, 3) := by decide +kernel
theorem dX12_grownRoot_64 : decode cX12_grownRoot 64 = .ok (.iconst 0, 1) := by decide +kernel
theorem dX12_grownRoot_65 : decode cX12_grownRoot 65 = .ok (.aload_n 0, 1) := by decide +kernel
theorem dX12_grownRoot_66 : decode cX12_grownRoot 66 = .ok (.iload_n 1, 1) := by decide +kernel
theorem dX12_grownRoot_67 : decode cX12_grownRoot 67 = .ok (.invokevirtual 145, 3) := by decide +kernel
theorem dX12_grownRoot_70 : decode cX12_grownRoot 70 = .ok (.iastore, 1) := by decide +kernel
theorem dX12_grownRoot_71 : decode cX12_grownRoot 71 = .ok (.aload_n 0, 1) := by decide +kernel
theorem dX12_grownRoot_72 : decode cX12_grownRoot 72 = .ok (.getfield 23, 3) := by decide +kernel
theorem dX12_grownRoot_75 : decode cX12_grownRoot 75 = .ok (.iconst 1, 1) := by decide +kernel
theorem dX12_grownRoot_76 : decode cX12_grownRoot 76 = .ok (.iload 5, 2) := by decide +kernel
theorem dX12_grownRoot_78 : decode cX12_grownRoot 78 = .ok (.iastore, 1) := by decide +kernel
theorem dX12_grownRoot_79 : decode cX12_grownRoot 79 = .ok (.aload_n 0, 1) := by decide +kernel
theorem dX12_grownRoot_80 : decode cX12_grownRoot 80 = .ok (.iconst 0, 1) := by decide +kernel
theorem dX12_grownRoot_81 : decode cX12_grownRoot 81 = .ok (.iconst 2, 1) := by decide +kernel
theorem dX12_grownRoot_82 : decode cX12_grownRoot 82 = .ok (.invokevirtual 86, 3) := by decide +kernel
theorem dX12_grownRoot_85 : decode cX12_grownRoot 85 = .ok (.ireturn, 1) := by decide +kernel
theorem dX12_makeAppend_0 : decode cX12_makeAppend 0 = .ok (.aload_n 0, 1) := by decide +kernel
theorem dX12_makeAppend_1 : decode cX12_makeAppend 1 = .ok (.getfield 9, 3) := by decide +kernel
theorem dX12_makeAppend_4 : decode cX12_makeAppend 4 = .ok (.iconst 1, 1) := by decide +kernel
theorem dX12_makeAppend_5 : decode cX12_makeAppend 5 = .ok (.iaload, 1) := by decide +kernel
theorem dX12_makeAppend_6 : decode cX12_makeAppend 6 = .ok (.istore_n 3, 1) := by decide +kernel
theorem dX12_makeAppend_7 : decode cX12_makeAppend 7 = .ok (.aload_n 0, 1) := by decide +kernel
theorem dX12_makeAppend_8 : decode cX12_makeAppend 8 = .ok (.iload_n 1, 1) := by decide +kernel
theorem dX12_makeAppend_9 : decode cX12_makeAppend 9 = .ok (.invokevirtual 121, 3) := by decide +kernel
theorem dX12_makeAppend_12 : decode cX12_makeAppend 12 = .ok (.istore 4, 2) := by decide +kernel
theorem dX12_makeAppend_14 : decode cX12_makeAppend 14 = .ok (.aload_n 0, 1) := by decide +kernel
theorem dX12_makeAppend_15 : decode cX12_makeAppend 15 = .ok (.iload_n 1, 1) := by decide +kernel
theorem dX12_makeAppend_16 : decode cX12_makeAppend 16 = .ok (.iload_n 2, 1) := by decide +kernel
theorem dX12_makeAppend_17 : decode cX12_makeAppend 17 = .ok (.invokevirtual 151, 3) := by decide +kernel
theorem dX12_makeAppend_20 : decode cX12_makeAppend 20 = .ok (.istore 5, 2) := by decide +kernel
theorem dX12_makeAppend_22 : decode cX12_makeAppend 22 = .ok (.aload_n 0, 1) := by decide +kernel
theorem dX12_makeAppend_23 : decode cX12_makeAppend 23 = .ok (.iload_n 1, 1) := by decide +kernel
theorem dX12_makeAppend_24 : decode cX12_makeAppend 24 = .ok (.iload 4, 2) := by decide +kernel
theorem dX12_makeAppend_26 : decode cX12_makeAppend 26 = .ok (.iconst 1, 1) := by decide +kernel
theorem dX12_makeAppend_27 : decode cX12_makeAppend 27 = .ok (.iadd, 1) := by decide +kernel
theorem dX12_makeAppend_28 : decode cX12_makeAppend 28 = .ok (.iload 5, 2) := by decide +kernel
theorem dX12_makeAppend_30 : decode cX12_makeAppend 30 = .ok (.iload_n 3, 1) := by decide +kernel
theorem dX12_makeAppend_31 : decode cX12_makeAppend 31 = .ok (.invokevirtual 142, 3) := by decide +kernel
theorem dX12_makeAppend_34 : decode cX12_makeAppend 34 = .ok (.istore 6, 2) := by decide +kernel
theorem dX12_makeAppend_36 : decode cX12_makeAppend 36 = .ok (.aload_n 0, 1) := by decide +kernel
theorem dX12_makeAppend_37 : decode cX12_makeAppend 37 = .ok (.getfield 9, 3) := by decide +kernel
theorem dX12_makeAppend_40 : decode cX12_makeAppend 40 = .ok (.iload 6, 2) := by decide +kernel
theorem dX12_makeAppend_42 : decode cX12_makeAppend 42 = .ok (.invokestatic 115, 3) := by decide +kernel
theorem dX12_makeAppend_45 : decode cX12_makeAppend 45 = .ok (.iload 4, 2) := by decide +kernel
theorem dX12_makeAppend_47 : decode cX12_makeAppend 47 = .ok (.iadd, 1) := by decide +kernel
theorem dX12_makeAppend_48 : decode cX12_makeAppend 48 = .ok (.iload_n 2, 1) := by decide +kernel
theorem dX12_makeAppend_49 : decode cX12_makeAppend 49 = .ok (.iastore, 1) := by decide +kernel
theorem dX12_makeAppend_50 : decode cX12_makeAppend 50 = .ok (.iload 6, 2) := by decide +kernel
theorem dX12_makeAppend_52 : decode cX12_makeAppend 52 = .ok (.ireturn, 1) := by decide +kernel
theorem dX12_cutRoot_0 : decode cX12_cutRoot 0 = .ok (.iload_n 2, 1) := by decide +kernel
theorem dX12_cutRoot_1 : decode cX12_cutRoot 1 = .ok (.ifCond .ne 5, 3) := by decide +kernel
theorem dX12_cutRoot_4 : decode cX12_cutRoot 4 = .ok (.iconst (-1), 1) := by decide +kernel
theorem dX12_cutRoot_5 : decode cX12_cutRoot 5 = .ok (.ireturn, 1) := by decide +kernel
theorem dX12_cutRoot_6 : decode cX12_cutRoot 6 = .ok (.aload_n 0, 1) := by decide +kernel
theorem dX12_cutRoot_7 : decode cX12_cutRoot 7 = .ok (.iload_n 1, 1) := by decide +kernel
theorem dX12_cutRoot_8 : decode cX12_cutRoot 8 = .ok (.invokevirtual 145, 3) := by decide +kernel
theorem dX12_cutRoot_11 : decode cX12_cutRoot 11 = .ok (.istore_n 3, 1) := by decide +kernel
theorem dX12_cutRoot_12 : decode cX12_cutRoot 12 = .ok (.aload_n 0, 1) := by decide +kernel
theorem dX12_cutRoot_13 : decode cX12_cutRoot 13 = .ok (.iload_n 1, 1) := by decide +kernel
theorem dX12_cutRoot_14 : decode cX12_cutRoot 14 = .ok (.invokevirtual 148, 3) := by decide +kernel
theorem dX12_cutRoot_17 : decode cX12_cutRoot 17 = .ok (.istore 4, 2) := by decide +kernel
theorem dX12_cutRoot_19 : decode cX12_cutRoot 19 = .ok (.iload 4, 2) := by decide +kernel
theorem dX12_cutRoot_21 : decode cX12_cutRoot 21 = .ok (.iload_n 2, 1) := by decide +kernel
theorem dX12_cutRoot_22 : decode cX12_cutRoot 22 = .ok (.invokestatic 118, 3) := by decide +kernel
theorem dX12_cutRoot_25 : decode cX12_cutRoot 25 = .ok (.if_icmp .le 16, 3) := by decide +kernel
theorem dX12_cutRoot_28 : decode cX12_cutRoot 28 = .ok (.aload_n 0, 1) := by decide +kernel
theorem dX12_cutRoot_29 : decode cX12_cutRoot 29 = .ok (.iload_n 3, 1) := by decide +kernel
theorem dX12_cutRoot_30 : decode cX12_cutRoot 30 = .ok (.iconst 0, 1) := by decide +kernel
theorem dX12_cutRoot_31 : decode cX12_cutRoot 31 = .ok (.invokevirtual 71, 3) := by decide +kernel
theorem dX12_cutRoot_34 : decode cX12_cutRoot 34 = .ok (.istore_n 3, 1) := by decide +kernel
theorem dX12_cutRoot_35 : decode cX12_cutRoot 35 = .ok (.iinc 4 (-1), 3) := by decide +kernel
theorem dX12_cutRoot_38 : decode cX12_cutRoot 38 = .ok (.goto (-19), 3) := by decide +kernel
theorem dX12_cutRoot_41 : decode cX12_cutRoot 41 = .ok (.aload_n 0, 1) := by decide +kernel
theorem dX12_cutRoot_42 : decode cX12_cutRoot 42 = .ok (.iload_n 3, 1) := by decide +kernel
theorem dX12_cutRoot_43 : decode cX12_cutRoot 43 = .ok (.iload_n 2, 1) := by decide +kernel
theorem dX12_cutRoot_44 : decode cX12_cutRoot 44 = .ok (.invokestatic 118, 3) := by decide +kernel
theorem dX12_cutRoot_47 : decode cX12_cutRoot 47 = .ok (.iload_n 2, 1) := by decide +kernel
theorem dX12_cutRoot_48 : decode cX12_cutRoot 48 = .ok (.invokevirtual 108, 3) := by decide +kernel
theorem dX12_cutRoot_51 : decode cX12_cutRoot 51 = .ok (.ireturn, 1) := by decide +kernel
theorem dX12_makeTruncate_0 : decode cX12_makeTruncate 0 = .ok (.aload_n 0, 1) := by decide +kernel
theorem dX12_makeTruncate_1 : decode cX12_makeTruncate 1 = .ok (.getfield 9, 3) := by decide +kernel
theorem dX12_makeTruncate_4 : decode cX12_makeTruncate 4 = .ok (.iconst 1, 1) := by decide +kernel
theorem dX12_makeTruncate_5 : decode cX12_makeTruncate 5 = .ok (.iaload, 1) := by decide +kernel
theorem dX12_makeTruncate_6 : decode cX12_makeTruncate 6 = .ok (.istore_n 3, 1) := by decide +kernel
theorem dX12_makeTruncate_7 : decode cX12_makeTruncate 7 = .ok (.aload_n 0, 1) := by decide +kernel
theorem dX12_makeTruncate_8 : decode cX12_makeTruncate 8 = .ok (.iload_n 1, 1) := by decide +kernel
theorem dX12_makeTruncate_9 : decode cX12_makeTruncate 9 = .ok (.iload_n 2, 1) := by decide +kernel
theorem dX12_makeTruncate_10 : decode cX12_makeTruncate 10 = .ok (.aload_n 0, 1) := by decide +kernel
theorem dX12_makeTruncate_11 : decode cX12_makeTruncate 11 = .ok (.iload_n 1, 1) := by decide +kernel
theorem dX12_makeTruncate_12 : decode cX12_makeTruncate 12 = .ok (.iload_n 2, 1) := by decide +kernel
theorem dX12_makeTruncate_13 : decode cX12_makeTruncate 13 = .ok (.invokevirtual 154, 3) := by decide +kernel
theorem dX12_makeTruncate_16 : decode cX12_makeTruncate 16 = .ok (.iload_n 3, 1) := by decide +kernel
theorem dX12_makeTruncate_17 : decode cX12_makeTruncate 17 = .ok (.invokevirtual 142, 3) := by decide +kernel
theorem dX12_makeTruncate_20 : decode cX12_makeTruncate 20 = .ok (.ireturn, 1) := by decide +kernel
theorem dX12_clearReached_0 : decode cX12_clearReached 0 = .ok (.iconst 0, 1) := by decide +kernel
theorem dX12_clearReached_1 : decode cX12_clearReached 1 = .ok (.istore_n 1, 1) := by decide +kernel
theorem dX12_clearReached_2 : decode cX12_clearReached 2 = .ok (.iload_n 1, 1) := by decide +kernel
theorem dX12_clearReached_3 : decode cX12_clearReached 3 = .ok (.sipush 200, 3) := by decide +kernel
theorem dX12_clearReached_6 : decode cX12_clearReached 6 = .ok (.if_icmp .ge 16, 3) := by decide +kernel
theorem dX12_clearReached_9 : decode cX12_clearReached 9 = .ok (.aload_n 0, 1) := by decide +kernel
theorem dX12_clearReached_10 : decode cX12_clearReached 10 = .ok (.getfield 32, 3) := by decide +kernel
theorem dX12_clearReached_13 : decode cX12_clearReached 13 = .ok (.iload_n 1, 1) := by decide +kernel
theorem dX12_clearReached_14 : decode cX12_clearReached 14 = .ok (.iconst 0, 1) := by decide +kernel
theorem dX12_clearReached_15 : decode cX12_clearReached 15 = .ok (.iastore, 1) := by decide +kernel
theorem dX12_clearReached_16 : decode cX12_clearReached 16 = .ok (.iinc 1 1, 3) := by decide +kernel
theorem dX12_clearReached_19 : decode cX12_clearReached 19 = .ok (.goto (-17), 3) := by decide +kernel
theorem dX12_clearReached_22 : decode cX12_clearReached 22 = .ok (.return_, 1) := by decide +kernel
theorem dX12_reach_0 : decode cX12_reach 0 = .ok (.iload_n 1, 1) := by decide +kernel
theorem dX12_reach_1 : decode cX12_reach 1 = .ok (.iconst (-1), 1) := by decide +kernel
theorem dX12_reach_2 : decode cX12_reach 2 = .ok (.if_icmp .ne 4, 3) := by decide +kernel
theorem dX12_reach_5 : decode cX12_reach 5 = .ok (.return_, 1) := by decide +kernel
theorem dX12_reach_6 : decode cX12_reach 6 = .ok (.aload_n 0, 1) := by decide +kernel
theorem dX12_reach_7 : decode cX12_reach 7 = .ok (.getfield 32, 3) := by decide +kernel
theorem dX12_reach_10 : decode cX12_reach 10 = .ok (.iload_n 1, 1) := by decide +kernel
theorem dX12_reach_11 : decode cX12_reach 11 = .ok (.dup2, 1) := by decide +kernel
theorem dX12_reach_12 : decode cX12_reach 12 = .ok (.iaload, 1) := by decide +kernel
theorem dX12_reach_13 : decode cX12_reach 13 = .ok (.iconst 1, 1) := by decide +kernel
theorem dX12_reach_14 : decode cX12_reach 14 = .ok (.iadd, 1) := by decide +kernel
theorem dX12_reach_15 : decode cX12_reach 15 = .ok (.iastore, 1) := by decide +kernel
theorem dX12_reach_16 : decode cX12_reach 16 = .ok (.aload_n 0, 1) := by decide +kernel
theorem dX12_reach_17 : decode cX12_reach 17 = .ok (.iload_n 1, 1) := by decide +kernel
theorem dX12_reach_18 : decode cX12_reach 18 = .ok (.invokevirtual 90, 3) := by decide +kernel
theorem dX12_reach_21 : decode cX12_reach 21 = .ok (.ifCond .eq 4, 3) := by decide +kernel
theorem dX12_reach_24 : decode cX12_reach 24 = .ok (.return_, 1) := by decide +kernel
theorem dX12_reach_25 : decode cX12_reach 25 = .ok (.iconst 0, 1) := by decide +kernel
theorem dX12_reach_26 : decode cX12_reach 26 = .ok (.istore_n 2, 1) := by decide +kernel
theorem dX12_reach_27 : decode cX12_reach 27 = .ok (.iload_n 2, 1) := by decide +kernel
theorem dX12_reach_28 : decode cX12_reach 28 = .ok (.aload_n 0, 1) := by decide +kernel
theorem dX12_reach_29 : decode cX12_reach 29 = .ok (.iload_n 1, 1) := by decide +kernel
theorem dX12_reach_30 : decode cX12_reach 30 = .ok (.invokevirtual 79, 3) := by decide +kernel
theorem dX12_reach_33 : decode cX12_reach 33 = .ok (.if_icmp .ge 19, 3) := by decide +kernel
theorem dX12_reach_36 : decode cX12_reach 36 = .ok (.aload_n 0, 1) := by decide +kernel
theorem dX12_reach_37 : decode cX12_reach 37 = .ok (.aload_n 0, 1) := by decide +kernel
theorem dX12_reach_38 : decode cX12_reach 38 = .ok (.iload_n 1, 1) := by decide +kernel
theorem dX12_reach_39 : decode cX12_reach 39 = .ok (.iload_n 2, 1) := by decide +kernel
theorem dX12_reach_40 : decode cX12_reach 40 = .ok (.invokevirtual 71, 3) := by decide +kernel
theorem dX12_reach_43 : decode cX12_reach 43 = .ok (.invokevirtual 157, 3) := by decide +kernel
theorem dX12_reach_46 : decode cX12_reach 46 = .ok (.iinc 2 1, 3) := by decide +kernel
theorem dX12_reach_49 : decode cX12_reach 49 = .ok (.goto (-22), 3) := by decide +kernel
theorem dX12_reach_52 : decode cX12_reach 52 = .ok (.return_, 1) := by decide +kernel
theorem dX12_reachAll_0 : decode cX12_reachAll 0 = .ok (.aload_n 0, 1) := by decide +kernel
theorem dX12_reachAll_1 : decode cX12_reachAll 1 = .ok (.invokevirtual 161, 3) := by decide +kernel
theorem dX12_reachAll_4 : decode cX12_reachAll 4 = .ok (.iconst 0, 1) := by decide +kernel
theorem dX12_reachAll_5 : decode cX12_reachAll 5 = .ok (.istore_n 1, 1) := by decide +kernel
theorem dX12_reachAll_6 : decode cX12_reachAll 6 = .ok (.iload_n 1, 1) := by decide +kernel
theorem dX12_reachAll_7 : decode cX12_reachAll 7 = .ok (.aload_n 0, 1) := by decide +kernel
theorem dX12_reachAll_8 : decode cX12_reachAll 8 = .ok (.getfield 9, 3) := by decide +kernel
theorem dX12_reachAll_11 : decode cX12_reachAll 11 = .ok (.iconst 0, 1) := by decide +kernel
theorem dX12_reachAll_12 : decode cX12_reachAll 12 = .ok (.iaload, 1) := by decide +kernel
theorem dX12_reachAll_13 : decode cX12_reachAll 13 = .ok (.if_icmp .ge 26, 3) := by decide +kernel
theorem dX12_reachAll_16 : decode cX12_reachAll 16 = .ok (.aload_n 0, 1) := by decide +kernel
theorem dX12_reachAll_17 : decode cX12_reachAll 17 = .ok (.iload_n 1, 1) := by decide +kernel
theorem dX12_reachAll_18 : decode cX12_reachAll 18 = .ok (.invokevirtual 164, 3) := by decide +kernel
theorem dX12_reachAll_21 : decode cX12_reachAll 21 = .ok (.ifCond .ne 12, 3) := by decide +kernel
theorem dX12_reachAll_24 : decode cX12_reachAll 24 = .ok (.aload_n 0, 1) := by decide +kernel
theorem dX12_reachAll_25 : decode cX12_reachAll 25 = .ok (.aload_n 0, 1) := by decide +kernel
theorem dX12_reachAll_26 : decode cX12_reachAll 26 = .ok (.iload_n 1, 1) := by decide +kernel
theorem dX12_reachAll_27 : decode cX12_reachAll 27 = .ok (.invokevirtual 145, 3) := by decide +kernel
theorem dX12_reachAll_30 : decode cX12_reachAll 30 = .ok (.invokevirtual 157, 3) := by decide +kernel
theorem dX12_reachAll_33 : decode cX12_reachAll 33 = .ok (.iinc 1 1, 3) := by decide +kernel
theorem dX12_reachAll_36 : decode cX12_reachAll 36 = .ok (.goto (-30), 3) := by decide +kernel
theorem dX12_reachAll_39 : decode cX12_reachAll 39 = .ok (.return_, 1) := by decide +kernel
theorem dX12_isStored_0 : decode cX12_isStored 0 = .ok (.iload_n 1, 1) := by decide +kernel
theorem dX12_isStored_1 : decode cX12_isStored 1 = .ok (.i2l, 1) := by decide +kernel
theorem dX12_isStored_2 : decode cX12_isStored 2 = .ok (.lconst 0, 1) := by decide +kernel
theorem dX12_isStored_3 : decode cX12_isStored 3 = .ok (.aload_n 0, 1) := by decide +kernel
theorem dX12_isStored_4 : decode cX12_isStored 4 = .ok (.getfield 9, 3) := by decide +kernel
theorem dX12_isStored_7 : decode cX12_isStored 7 = .ok (.iconst 1, 1) := by decide +kernel
theorem dX12_isStored_8 : decode cX12_isStored 8 = .ok (.iaload, 1) := by decide +kernel
theorem dX12_isStored_9 : decode cX12_isStored 9 = .ok (.iconst 1, 1) := by decide +kernel
theorem dX12_isStored_10 : decode cX12_isStored 10 = .ok (.isub, 1) := by decide +kernel
theorem dX12_isStored_11 : decode cX12_isStored 11 = .ok (.i2l, 1) := by decide +kernel
theorem dX12_isStored_12 : decode cX12_isStored 12 = .ok (.invokestatic 167, 3) := by decide +kernel
theorem dX12_isStored_15 : decode cX12_isStored 15 = .ok (.ifCond .eq 23, 3) := by decide +kernel
theorem dX12_isStored_18 : decode cX12_isStored 18 = .ok (.aload_n 0, 1) := by decide +kernel
theorem dX12_isStored_19 : decode cX12_isStored 19 = .ok (.getfield 9, 3) := by decide +kernel
theorem dX12_isStored_22 : decode cX12_isStored 22 = .ok (.iload_n 1, 1) := by decide +kernel
theorem dX12_isStored_23 : decode cX12_isStored 23 = .ok (.invokestatic 68, 3) := by decide +kernel
theorem dX12_isStored_26 : decode cX12_isStored 26 = .ok (.bipush 6, 2) := by decide +kernel
theorem dX12_isStored_28 : decode cX12_isStored 28 = .ok (.iadd, 1) := by decide +kernel
theorem dX12_isStored_29 : decode cX12_isStored 29 = .ok (.iaload, 1) := by decide +kernel
theorem dX12_isStored_30 : decode cX12_isStored 30 = .ok (.iconst 1, 1) := by decide +kernel
theorem dX12_isStored_31 : decode cX12_isStored 31 = .ok (.if_icmp .ne 7, 3) := by decide +kernel
theorem dX12_isStored_34 : decode cX12_isStored 34 = .ok (.iconst 1, 1) := by decide +kernel
theorem dX12_isStored_35 : decode cX12_isStored 35 = .ok (.goto 4, 3) := by decide +kernel
theorem dX12_isStored_38 : decode cX12_isStored 38 = .ok (.iconst 0, 1) := by decide +kernel
theorem dX12_isStored_39 : decode cX12_isStored 39 = .ok (.ireturn, 1) := by decide +kernel
theorem dX12_countStored_0 : decode cX12_countStored 0 = .ok (.iconst 0, 1) := by decide +kernel
theorem dX12_countStored_1 : decode cX12_countStored 1 = .ok (.istore_n 1, 1) := by decide +kernel
theorem dX12_countStored_2 : decode cX12_countStored 2 = .ok (.iconst 0, 1) := by decide +kernel
theorem dX12_countStored_3 : decode cX12_countStored 3 = .ok (.istore_n 2, 1) := by decide +kernel
theorem dX12_countStored_4 : decode cX12_countStored 4 = .ok (.iload_n 2, 1) := by decide +kernel
theorem dX12_countStored_5 : decode cX12_countStored 5 = .ok (.aload_n 0, 1) := by decide +kernel
theorem dX12_countStored_6 : decode cX12_countStored 6 = .ok (.getfield 9, 3) := by decide +kernel
theorem dX12_countStored_9 : decode cX12_countStored 9 = .ok (.iconst 1, 1) := by decide +kernel
theorem dX12_countStored_10 : decode cX12_countStored 10 = .ok (.iaload, 1) := by decide +kernel
theorem dX12_countStored_11 : decode cX12_countStored 11 = .ok (.if_icmp .ge 20, 3) := by decide +kernel
theorem dX12_countStored_14 : decode cX12_countStored 14 = .ok (.iload_n 1, 1) := by decide +kernel
theorem dX12_countStored_15 : decode cX12_countStored 15 = .ok (.aload_n 0, 1) := by decide +kernel
theorem dX12_countStored_16 : decode cX12_countStored 16 = .ok (.iload_n 2, 1) := by decide +kernel
theorem dX12_countStored_17 : decode cX12_countStored 17 = .ok (.invokevirtual 171, 3) := by decide +kernel
theorem dX12_countStored_20 : decode cX12_countStored 20 = .ok (.invokestatic 75, 3) := by decide +kernel
theorem dX12_countStored_23 : decode cX12_countStored 23 = .ok (.iadd, 1) := by decide +kernel
theorem dX12_countStored_24 : decode cX12_countStored 24 = .ok (.istore_n 1, 1) := by decide +kernel
theorem dX12_countStored_25 : decode cX12_countStored 25 = .ok (.iinc 2 1, 3) := by decide +kernel
theorem dX12_countStored_28 : decode cX12_countStored 28 = .ok (.goto (-24), 3) := by decide +kernel
theorem dX12_countStored_31 : decode cX12_countStored 31 = .ok (.iload_n 1, 1) := by decide +kernel
theorem dX12_countStored_32 : decode cX12_countStored 32 = .ok (.ireturn, 1) := by decide +kernel
theorem dX12_countGarbage_0 : decode cX12_countGarbage 0 = .ok (.aload_n 0, 1) := by decide +kernel
theorem dX12_countGarbage_1 : decode cX12_countGarbage 1 = .ok (.invokevirtual 174, 3) := by decide +kernel
theorem dX12_countGarbage_4 : decode cX12_countGarbage 4 = .ok (.iconst 0, 1) := by decide +kernel
theorem dX12_countGarbage_5 : decode cX12_countGarbage 5 = .ok (.istore_n 1, 1) := by decide +kernel
theorem dX12_countGarbage_6 : decode cX12_countGarbage 6 = .ok (.iconst 0, 1) := by decide +kernel
theorem dX12_countGarbage_7 : decode cX12_countGarbage 7 = .ok (.istore_n 2, 1) := by decide +kernel
theorem dX12_countGarbage_8 : decode cX12_countGarbage 8 = .ok (.iload_n 2, 1) := by decide +kernel
theorem dX12_countGarbage_9 : decode cX12_countGarbage 9 = .ok (.aload_n 0, 1) := by decide +kernel
theorem dX12_countGarbage_10 : decode cX12_countGarbage 10 = .ok (.getfield 9, 3) := by decide +kernel
theorem dX12_countGarbage_13 : decode cX12_countGarbage 13 = .ok (.iconst 1, 1) := by decide +kernel
theorem dX12_countGarbage_14 : decode cX12_countGarbage 14 = .ok (.iaload, 1) := by decide +kernel
theorem dX12_countGarbage_15 : decode cX12_countGarbage 15 = .ok (.if_icmp .ge 37, 3) := by decide +kernel
theorem dX12_countGarbage_18 : decode cX12_countGarbage 18 = .ok (.iload_n 1, 1) := by decide +kernel
theorem dX12_countGarbage_19 : decode cX12_countGarbage 19 = .ok (.aload_n 0, 1) := by decide +kernel
theorem dX12_countGarbage_20 : decode cX12_countGarbage 20 = .ok (.iload_n 2, 1) := by decide +kernel
theorem dX12_countGarbage_21 : decode cX12_countGarbage 21 = .ok (.invokevirtual 171, 3) := by decide +kernel
theorem dX12_countGarbage_24 : decode cX12_countGarbage 24 = .ok (.ifCond .eq 16, 3) := by decide +kernel
theorem dX12_countGarbage_27 : decode cX12_countGarbage 27 = .ok (.aload_n 0, 1) := by decide +kernel
theorem dX12_countGarbage_28 : decode cX12_countGarbage 28 = .ok (.getfield 32, 3) := by decide +kernel
theorem dX12_countGarbage_31 : decode cX12_countGarbage 31 = .ok (.iload_n 2, 1) := by decide +kernel
theorem dX12_countGarbage_32 : decode cX12_countGarbage 32 = .ok (.iaload, 1) := by decide +kernel
theorem dX12_countGarbage_33 : decode cX12_countGarbage 33 = .ok (.ifCond .ne 7, 3) := by decide +kernel
theorem dX12_countGarbage_36 : decode cX12_countGarbage 36 = .ok (.iconst 1, 1) := by decide +kernel
theorem dX12_countGarbage_37 : decode cX12_countGarbage 37 = .ok (.goto 4, 3) := by decide +kernel
theorem dX12_countGarbage_40 : decode cX12_countGarbage 40 = .ok (.iconst 0, 1) := by decide +kernel
theorem dX12_countGarbage_41 : decode cX12_countGarbage 41 = .ok (.invokestatic 75, 3) := by decide +kernel
theorem dX12_countGarbage_44 : decode cX12_countGarbage 44 = .ok (.iadd, 1) := by decide +kernel
theorem dX12_countGarbage_45 : decode cX12_countGarbage 45 = .ok (.istore_n 1, 1) := by decide +kernel
theorem dX12_countGarbage_46 : decode cX12_countGarbage 46 = .ok (.iinc 2 1, 3) := by decide +kernel
theorem dX12_countGarbage_49 : decode cX12_countGarbage 49 = .ok (.goto (-41), 3) := by decide +kernel
theorem dX12_countGarbage_52 : decode cX12_countGarbage 52 = .ok (.iload_n 1, 1) := by decide +kernel
theorem dX12_countGarbage_53 : decode cX12_countGarbage 53 = .ok (.ireturn, 1) := by decide +kernel
theorem dX12_releaseVersion_0 : decode cX12_releaseVersion 0 = .ok (.aload_n 0, 1) := by decide +kernel
theorem dX12_releaseVersion_1 : decode cX12_releaseVersion 1 = .ok (.getfield 9, 3) := by decide +kernel
theorem dX12_releaseVersion_4 : decode cX12_releaseVersion 4 = .ok (.iload_n 1, 1) := by decide +kernel
theorem dX12_releaseVersion_5 : decode cX12_releaseVersion 5 = .ok (.invokestatic 112, 3) := by decide +kernel
theorem dX12_releaseVersion_8 : decode cX12_releaseVersion 8 = .ok (.iconst 4, 1) := by decide +kernel
theorem dX12_releaseVersion_9 : decode cX12_releaseVersion 9 = .ok (.iadd, 1) := by decide +kernel
theorem dX12_releaseVersion_10 : decode cX12_releaseVersion 10 = .ok (.iconst 1, 1) := by decide +kernel
theorem dX12_releaseVersion_11 : decode cX12_releaseVersion 11 = .ok (.iastore, 1) := by decide +kernel
theorem dX12_releaseVersion_12 : decode cX12_releaseVersion 12 = .ok (.aload_n 0, 1) := by decide +kernel
theorem dX12_releaseVersion_13 : decode cX12_releaseVersion 13 = .ok (.invokevirtual 177, 3) := by decide +kernel
theorem dX12_releaseVersion_16 : decode cX12_releaseVersion 16 = .ok (.ireturn, 1) := by decide +kernel
theorem dX12_collectAll_0 : decode cX12_collectAll 0 = .ok (.aload_n 0, 1) := by decide +kernel
theorem dX12_collectAll_1 : decode cX12_collectAll 1 = .ok (.invokevirtual 177, 3) := by decide +kernel
theorem dX12_collectAll_4 : decode cX12_collectAll 4 = .ok (.istore_n 1, 1) := by decide +kernel
theorem dX12_collectAll_5 : decode cX12_collectAll 5 = .ok (.iconst 0, 1) := by decide +kernel
theorem dX12_collectAll_6 : decode cX12_collectAll 6 = .ok (.istore_n 2, 1) := by decide +kernel
theorem dX12_collectAll_7 : decode cX12_collectAll 7 = .ok (.iload_n 2, 1) := by decide +kernel
theorem dX12_collectAll_8 : decode cX12_collectAll 8 = .ok (.aload_n 0, 1) := by decide +kernel
theorem dX12_collectAll_9 : decode cX12_collectAll 9 = .ok (.getfield 9, 3) := by decide +kernel
theorem dX12_collectAll_12 : decode cX12_collectAll 12 = .ok (.iconst 1, 1) := by decide +kernel
theorem dX12_collectAll_13 : decode cX12_collectAll 13 = .ok (.iaload, 1) := by decide +kernel
theorem dX12_collectAll_14 : decode cX12_collectAll 14 = .ok (.if_icmp .ge 31, 3) := by decide +kernel
theorem dX12_collectAll_17 : decode cX12_collectAll 17 = .ok (.aload_n 0, 1) := by decide +kernel
theorem dX12_collectAll_18 : decode cX12_collectAll 18 = .ok (.getfield 32, 3) := by decide +kernel
theorem dX12_collectAll_21 : decode cX12_collectAll 21 = .ok (.iload_n 2, 1) := by decide +kernel
theorem dX12_collectAll_22 : decode cX12_collectAll 22 = .ok (.iaload, 1) := by decide +kernel
theorem dX12_collectAll_23 : decode cX12_collectAll 23 = .ok (.ifCond .ne 16, 3) := by decide +kernel
theorem dX12_collectAll_26 : decode cX12_collectAll 26 = .ok (.aload_n 0, 1) := by decide +kernel
theorem dX12_collectAll_27 : decode cX12_collectAll 27 = .ok (.getfield 9, 3) := by decide +kernel
theorem dX12_collectAll_30 : decode cX12_collectAll 30 = .ok (.iload_n 2, 1) := by decide +kernel
theorem dX12_collectAll_31 : decode cX12_collectAll 31 = .ok (.invokestatic 68, 3) := by decide +kernel
theorem dX12_collectAll_34 : decode cX12_collectAll 34 = .ok (.bipush 6, 2) := by decide +kernel
theorem dX12_collectAll_36 : decode cX12_collectAll 36 = .ok (.iadd, 1) := by decide +kernel
theorem dX12_collectAll_37 : decode cX12_collectAll 37 = .ok (.iconst 0, 1) := by decide +kernel
theorem dX12_collectAll_38 : decode cX12_collectAll 38 = .ok (.iastore, 1) := by decide +kernel
theorem dX12_collectAll_39 : decode cX12_collectAll 39 = .ok (.iinc 2 1, 3) := by decide +kernel
theorem dX12_collectAll_42 : decode cX12_collectAll 42 = .ok (.goto (-35), 3) := by decide +kernel
theorem dX12_collectAll_45 : decode cX12_collectAll 45 = .ok (.iload_n 1, 1) := by decide +kernel
theorem dX12_collectAll_46 : decode cX12_collectAll 46 = .ok (.ireturn, 1) := by decide +kernel
theorem dX12_appendWord_0 : decode cX12_appendWord 0 = .ok (.iconst 3, 1) := by decide +kernel
theorem dX12_appendWord_1 : decode cX12_appendWord 1 = .ok (.istore_n 2, 1) := by decide +kernel
theorem dX12_appendWord_2 : decode cX12_appendWord 2 = .ok (.iload_n 2, 1) := by decide +kernel
theorem dX12_appendWord_3 : decode cX12_appendWord 3 = .ok (.ifCond .lt 35, 3) := by decide +kernel
theorem dX12_appendWord_6 : decode cX12_appendWord 6 = .ok (.aload_n 0, 1) := by decide +kernel
theorem dX12_appendWord_7 : decode cX12_appendWord 7 = .ok (.getfield 35, 3) := by decide +kernel
theorem dX12_appendWord_10 : decode cX12_appendWord 10 = .ok (.aload_n 0, 1) := by decide +kernel
theorem dX12_appendWord_11 : decode cX12_appendWord 11 = .ok (.getfield 180, 3) := by decide +kernel
theorem dX12_appendWord_14 : decode cX12_appendWord 14 = .ok (.iload_n 1, 1) := by decide +kernel
theorem dX12_appendWord_15 : decode cX12_appendWord 15 = .ok (.bipush 8, 2) := by decide +kernel
theorem dX12_appendWord_17 : decode cX12_appendWord 17 = .ok (.iload_n 2, 1) := by decide +kernel
theorem dX12_appendWord_18 : decode cX12_appendWord 18 = .ok (.imul, 1) := by decide +kernel
theorem dX12_appendWord_19 : decode cX12_appendWord 19 = .ok (.ishr, 1) := by decide +kernel
theorem dX12_appendWord_20 : decode cX12_appendWord 20 = .ok (.i2b, 1) := by decide +kernel
theorem dX12_appendWord_21 : decode cX12_appendWord 21 = .ok (.bastore, 1) := by decide +kernel
theorem dX12_appendWord_22 : decode cX12_appendWord 22 = .ok (.aload_n 0, 1) := by decide +kernel
theorem dX12_appendWord_23 : decode cX12_appendWord 23 = .ok (.dup, 1) := by decide +kernel
theorem dX12_appendWord_24 : decode cX12_appendWord 24 = .ok (.getfield 180, 3) := by decide +kernel
theorem dX12_appendWord_27 : decode cX12_appendWord 27 = .ok (.iconst 1, 1) := by decide +kernel
theorem dX12_appendWord_28 : decode cX12_appendWord 28 = .ok (.iadd, 1) := by decide +kernel
theorem dX12_appendWord_29 : decode cX12_appendWord 29 = .ok (.putfield 180, 3) := by decide +kernel
theorem dX12_appendWord_32 : decode cX12_appendWord 32 = .ok (.iinc 2 (-1), 3) := by decide +kernel
theorem dX12_appendWord_35 : decode cX12_appendWord 35 = .ok (.goto (-33), 3) := by decide +kernel
theorem dX12_appendWord_38 : decode cX12_appendWord 38 = .ok (.return_, 1) := by decide +kernel
theorem dX12_appendInput_0 : decode cX12_appendInput 0 = .ok (.aload_n 0, 1) := by decide +kernel
theorem dX12_appendInput_1 : decode cX12_appendInput 1 = .ok (.iconst 0, 1) := by decide +kernel
theorem dX12_appendInput_2 : decode cX12_appendInput 2 = .ok (.putfield 58, 3) := by decide +kernel
theorem dX12_appendInput_5 : decode cX12_appendInput 5 = .ok (.aload_n 0, 1) := by decide +kernel
theorem dX12_appendInput_6 : decode cX12_appendInput 6 = .ok (.getfield 180, 3) := by decide +kernel
theorem dX12_appendInput_9 : decode cX12_appendInput 9 = .ok (.sipush 580, 3) := by decide +kernel
theorem dX12_appendInput_12 : decode cX12_appendInput 12 = .ok (.if_icmp .le 5, 3) := by decide +kernel
theorem dX12_appendInput_15 : decode cX12_appendInput 15 = .ok (.iconst (-1), 1) := by decide +kernel
theorem dX12_appendInput_16 : decode cX12_appendInput 16 = .ok (.ireturn, 1) := by decide +kernel
theorem dX12_appendInput_17 : decode cX12_appendInput 17 = .ok (.aload_n 0, 1) := by decide +kernel
theorem dX12_appendInput_18 : decode cX12_appendInput 18 = .ok (.iload_n 1, 1) := by decide +kernel
theorem dX12_appendInput_19 : decode cX12_appendInput 19 = .ok (.invokevirtual 183, 3) := by decide +kernel
theorem dX12_appendInput_22 : decode cX12_appendInput 22 = .ok (.aload_n 0, 1) := by decide +kernel
theorem dX12_appendInput_23 : decode cX12_appendInput 23 = .ok (.iload_n 2, 1) := by decide +kernel
theorem dX12_appendInput_24 : decode cX12_appendInput 24 = .ok (.invokevirtual 183, 3) := by decide +kernel
theorem dX12_appendInput_27 : decode cX12_appendInput 27 = .ok (.aload_n 0, 1) := by decide +kernel
theorem dX12_appendInput_28 : decode cX12_appendInput 28 = .ok (.iload_n 3, 1) := by decide +kernel
theorem dX12_appendInput_29 : decode cX12_appendInput 29 = .ok (.invokevirtual 183, 3) := by decide +kernel
theorem dX12_appendInput_32 : decode cX12_appendInput 32 = .ok (.aload_n 0, 1) := by decide +kernel
theorem dX12_appendInput_33 : decode cX12_appendInput 33 = .ok (.iload 4, 2) := by decide +kernel
theorem dX12_appendInput_35 : decode cX12_appendInput 35 = .ok (.invokevirtual 183, 3) := by decide +kernel
theorem dX12_appendInput_38 : decode cX12_appendInput 38 = .ok (.aload_n 0, 1) := by decide +kernel
theorem dX12_appendInput_39 : decode cX12_appendInput 39 = .ok (.iload 5, 2) := by decide +kernel
theorem dX12_appendInput_41 : decode cX12_appendInput 41 = .ok (.invokevirtual 183, 3) := by decide +kernel
theorem dX12_appendInput_44 : decode cX12_appendInput 44 = .ok (.aload_n 0, 1) := by decide +kernel
theorem dX12_appendInput_45 : decode cX12_appendInput 45 = .ok (.getfield 180, 3) := by decide +kernel
theorem dX12_appendInput_48 : decode cX12_appendInput 48 = .ok (.ireturn, 1) := by decide +kernel
theorem dX12_truncateInput_0 : decode cX12_truncateInput 0 = .ok (.aload_n 0, 1) := by decide +kernel
theorem dX12_truncateInput_1 : decode cX12_truncateInput 1 = .ok (.iconst 0, 1) := by decide +kernel
theorem dX12_truncateInput_2 : decode cX12_truncateInput 2 = .ok (.putfield 58, 3) := by decide +kernel
theorem dX12_truncateInput_5 : decode cX12_truncateInput 5 = .ok (.iload_n 1, 1) := by decide +kernel
theorem dX12_truncateInput_6 : decode cX12_truncateInput 6 = .ok (.i2l, 1) := by decide +kernel
theorem dX12_truncateInput_7 : decode cX12_truncateInput 7 = .ok (.lconst 0, 1) := by decide +kernel
theorem dX12_truncateInput_8 : decode cX12_truncateInput 8 = .ok (.aload_n 0, 1) := by decide +kernel
theorem dX12_truncateInput_9 : decode cX12_truncateInput 9 = .ok (.getfield 180, 3) := by decide +kernel
theorem dX12_truncateInput_12 : decode cX12_truncateInput 12 = .ok (.i2l, 1) := by decide +kernel
theorem dX12_truncateInput_13 : decode cX12_truncateInput 13 = .ok (.invokestatic 167, 3) := by decide +kernel
theorem dX12_truncateInput_16 : decode cX12_truncateInput 16 = .ok (.ifCond .ne 5, 3) := by decide +kernel
theorem dX12_truncateInput_19 : decode cX12_truncateInput 19 = .ok (.iconst 0, 1) := by decide +kernel
theorem dX12_truncateInput_20 : decode cX12_truncateInput 20 = .ok (.ireturn, 1) := by decide +kernel
theorem dX12_truncateInput_21 : decode cX12_truncateInput 21 = .ok (.aload_n 0, 1) := by decide +kernel
theorem dX12_truncateInput_22 : decode cX12_truncateInput 22 = .ok (.iload_n 1, 1) := by decide +kernel
theorem dX12_truncateInput_23 : decode cX12_truncateInput 23 = .ok (.putfield 180, 3) := by decide +kernel
theorem dX12_truncateInput_26 : decode cX12_truncateInput 26 = .ok (.iconst 1, 1) := by decide +kernel
theorem dX12_truncateInput_27 : decode cX12_truncateInput 27 = .ok (.ireturn, 1) := by decide +kernel
theorem dX12_errorCode_0 : decode cX12_errorCode 0 = .ok (.aload_n 0, 1) := by decide +kernel
theorem dX12_errorCode_1 : decode cX12_errorCode 1 = .ok (.iconst 0, 1) := by decide +kernel
theorem dX12_errorCode_2 : decode cX12_errorCode 2 = .ok (.putfield 58, 3) := by decide +kernel
theorem dX12_errorCode_5 : decode cX12_errorCode 5 = .ok (.aload_n 0, 1) := by decide +kernel
theorem dX12_errorCode_6 : decode cX12_errorCode 6 = .ok (.getfield 186, 3) := by decide +kernel
theorem dX12_errorCode_9 : decode cX12_errorCode 9 = .ok (.ireturn, 1) := by decide +kernel
theorem dX12_errorOffset_0 : decode cX12_errorOffset 0 = .ok (.aload_n 0, 1) := by decide +kernel
theorem dX12_errorOffset_1 : decode cX12_errorOffset 1 = .ok (.iconst 0, 1) := by decide +kernel
theorem dX12_errorOffset_2 : decode cX12_errorOffset 2 = .ok (.putfield 58, 3) := by decide +kernel
theorem dX12_errorOffset_5 : decode cX12_errorOffset 5 = .ok (.aload_n 0, 1) := by decide +kernel
theorem dX12_errorOffset_6 : decode cX12_errorOffset 6 = .ok (.getfield 39, 3) := by decide +kernel
theorem dX12_errorOffset_9 : decode cX12_errorOffset 9 = .ok (.ireturn, 1) := by decide +kernel
theorem dX12_isLetter_0 : decode cX12_isLetter 0 = .ok (.iload_n 1, 1) := by decide +kernel
theorem dX12_isLetter_1 : decode cX12_isLetter 1 = .ok (.aload_n 0, 1) := by decide +kernel
theorem dX12_isLetter_2 : decode cX12_isLetter 2 = .ok (.getfield 180, 3) := by decide +kernel
theorem dX12_isLetter_5 : decode cX12_isLetter 5 = .ok (.if_icmp .ge 26, 3) := by decide +kernel
theorem dX12_isLetter_8 : decode cX12_isLetter 8 = .ok (.aload_n 0, 1) := by decide +kernel
theorem dX12_isLetter_9 : decode cX12_isLetter 9 = .ok (.getfield 35, 3) := by decide +kernel
theorem dX12_isLetter_12 : decode cX12_isLetter 12 = .ok (.iload_n 1, 1) := by decide +kernel
theorem dX12_isLetter_13 : decode cX12_isLetter 13 = .ok (.baload, 1) := by decide +kernel
theorem dX12_isLetter_14 : decode cX12_isLetter 14 = .ok (.i2l, 1) := by decide +kernel
theorem dX12_isLetter_15 : decode cX12_isLetter 15 = .ok (.ldc2_w 189, 3) := by decide +kernel
theorem dX12_isLetter_18 : decode cX12_isLetter 18 = .ok (.ldc2_w 191, 3) := by decide +kernel
theorem dX12_isLetter_21 : decode cX12_isLetter 21 = .ok (.invokestatic 167, 3) := by decide +kernel
theorem dX12_isLetter_24 : decode cX12_isLetter 24 = .ok (.ifCond .eq 7, 3) := by decide +kernel
theorem dX12_isLetter_27 : decode cX12_isLetter 27 = .ok (.iconst 1, 1) := by decide +kernel
theorem dX12_isLetter_28 : decode cX12_isLetter 28 = .ok (.goto 4, 3) := by decide +kernel
theorem dX12_isLetter_31 : decode cX12_isLetter 31 = .ok (.iconst 0, 1) := by decide +kernel
theorem dX12_isLetter_32 : decode cX12_isLetter 32 = .ok (.ireturn, 1) := by decide +kernel
theorem dX12_isDigit_0 : decode cX12_isDigit 0 = .ok (.iload_n 1, 1) := by decide +kernel
theorem dX12_isDigit_1 : decode cX12_isDigit 1 = .ok (.aload_n 0, 1) := by decide +kernel
theorem dX12_isDigit_2 : decode cX12_isDigit 2 = .ok (.getfield 180, 3) := by decide +kernel
theorem dX12_isDigit_5 : decode cX12_isDigit 5 = .ok (.if_icmp .ge 26, 3) := by decide +kernel
theorem dX12_isDigit_8 : decode cX12_isDigit 8 = .ok (.aload_n 0, 1) := by decide +kernel
theorem dX12_isDigit_9 : decode cX12_isDigit 9 = .ok (.getfield 35, 3) := by decide +kernel
theorem dX12_isDigit_12 : decode cX12_isDigit 12 = .ok (.iload_n 1, 1) := by decide +kernel
theorem dX12_isDigit_13 : decode cX12_isDigit 13 = .ok (.baload, 1) := by decide +kernel
theorem dX12_isDigit_14 : decode cX12_isDigit 14 = .ok (.i2l, 1) := by decide +kernel
theorem dX12_isDigit_15 : decode cX12_isDigit 15 = .ok (.ldc2_w 193, 3) := by decide +kernel
theorem dX12_isDigit_18 : decode cX12_isDigit 18 = .ok (.ldc2_w 195, 3) := by decide +kernel
theorem dX12_isDigit_21 : decode cX12_isDigit 21 = .ok (.invokestatic 167, 3) := by decide +kernel
theorem dX12_isDigit_24 : decode cX12_isDigit 24 = .ok (.ifCond .eq 7, 3) := by decide +kernel
theorem dX12_isDigit_27 : decode cX12_isDigit 27 = .ok (.iconst 1, 1) := by decide +kernel
theorem dX12_isDigit_28 : decode cX12_isDigit 28 = .ok (.goto 4, 3) := by decide +kernel
theorem dX12_isDigit_31 : decode cX12_isDigit 31 = .ok (.iconst 0, 1) := by decide +kernel
theorem dX12_isDigit_32 : decode cX12_isDigit 32 = .ok (.ireturn, 1) := by decide +kernel
theorem dX12_advanceToken_0 : decode cX12_advanceToken 0 = .ok (.aload_n 0, 1) := by decide +kernel
theorem dX12_advanceToken_1 : decode cX12_advanceToken 1 = .ok (.getfield 197, 3) := by decide +kernel
theorem dX12_advanceToken_4 : decode cX12_advanceToken 4 = .ok (.ifCond .le 4, 3) := by decide +kernel
theorem dX12_advanceToken_7 : decode cX12_advanceToken 7 = .ok (.return_, 1) := by decide +kernel
theorem dX12_advanceToken_8 : decode cX12_advanceToken 8 = .ok (.aload_n 0, 1) := by decide +kernel
theorem dX12_advanceToken_9 : decode cX12_advanceToken 9 = .ok (.aload_n 0, 1) := by decide +kernel
theorem dX12_advanceToken_10 : decode cX12_advanceToken 10 = .ok (.getfield 200, 3) := by decide +kernel
theorem dX12_advanceToken_13 : decode cX12_advanceToken 13 = .ok (.putfield 203, 3) := by decide +kernel
theorem dX12_advanceToken_16 : decode cX12_advanceToken 16 = .ok (.aload_n 0, 1) := by decide +kernel
theorem dX12_advanceToken_17 : decode cX12_advanceToken 17 = .ok (.getfield 203, 3) := by decide +kernel
theorem dX12_advanceToken_20 : decode cX12_advanceToken 20 = .ok (.aload_n 0, 1) := by decide +kernel
theorem dX12_advanceToken_21 : decode cX12_advanceToken 21 = .ok (.getfield 180, 3) := by decide +kernel
theorem dX12_advanceToken_24 : decode cX12_advanceToken 24 = .ok (.if_icmp .ge 44, 3) := by decide +kernel
theorem dX12_advanceToken_27 : decode cX12_advanceToken 27 = .ok (.aload_n 0, 1) := by decide +kernel
theorem dX12_advanceToken_28 : decode cX12_advanceToken 28 = .ok (.getfield 35, 3) := by decide +kernel
theorem dX12_advanceToken_31 : decode cX12_advanceToken 31 = .ok (.aload_n 0, 1) := by decide +kernel
theorem dX12_advanceToken_32 : decode cX12_advanceToken 32 = .ok (.getfield 203, 3) := by decide +kernel
theorem dX12_advanceToken_35 : decode cX12_advanceToken 35 = .ok (.baload, 1) := by decide +kernel
theorem dX12_advanceToken_36 : decode cX12_advanceToken 36 = .ok (.bipush 32, 2) := by decide +kernel
theorem dX12_advanceToken_38 : decode cX12_advanceToken 38 = .ok (.if_icmp .eq 17, 3) := by decide +kernel
theorem dX12_advanceToken_41 : decode cX12_advanceToken 41 = .ok (.aload_n 0, 1) := by decide +kernel
theorem dX12_advanceToken_42 : decode cX12_advanceToken 42 = .ok (.getfield 35, 3) := by decide +kernel
theorem dX12_advanceToken_45 : decode cX12_advanceToken 45 = .ok (.aload_n 0, 1) := by decide +kernel
theorem dX12_advanceToken_46 : decode cX12_advanceToken 46 = .ok (.getfield 203, 3) := by decide +kernel
theorem dX12_advanceToken_49 : decode cX12_advanceToken 49 = .ok (.baload, 1) := by decide +kernel
theorem dX12_advanceToken_50 : decode cX12_advanceToken 50 = .ok (.bipush 10, 2) := by decide +kernel
theorem dX12_advanceToken_52 : decode cX12_advanceToken 52 = .ok (.if_icmp .ne 16, 3) := by decide +kernel
theorem dX12_advanceToken_55 : decode cX12_advanceToken 55 = .ok (.aload_n 0, 1) := by decide +kernel
theorem dX12_advanceToken_56 : decode cX12_advanceToken 56 = .ok (.dup, 1) := by decide +kernel
theorem dX12_advanceToken_57 : decode cX12_advanceToken 57 = .ok (.getfield 203, 3) := by decide +kernel
theorem dX12_advanceToken_60 : decode cX12_advanceToken 60 = .ok (.iconst 1, 1) := by decide +kernel
theorem dX12_advanceToken_61 : decode cX12_advanceToken 61 = .ok (.iadd, 1) := by decide +kernel
theorem dX12_advanceToken_62 : decode cX12_advanceToken 62 = .ok (.putfield 203, 3) := by decide +kernel
theorem dX12_advanceToken_65 : decode cX12_advanceToken 65 = .ok (.goto (-49), 3) := by decide +kernel
theorem dX12_advanceToken_68 : decode cX12_advanceToken 68 = .ok (.aload_n 0, 1) := by decide +kernel
theorem dX12_advanceToken_69 : decode cX12_advanceToken 69 = .ok (.aload_n 0, 1) := by decide +kernel
theorem dX12_advanceToken_70 : decode cX12_advanceToken 70 = .ok (.getfield 203, 3) := by decide +kernel
theorem dX12_advanceToken_73 : decode cX12_advanceToken 73 = .ok (.putfield 200, 3) := by decide +kernel
theorem dX12_advanceToken_76 : decode cX12_advanceToken 76 = .ok (.aload_n 0, 1) := by decide +kernel
theorem dX12_advanceToken_77 : decode cX12_advanceToken 77 = .ok (.getfield 203, 3) := by decide +kernel
theorem dX12_advanceToken_80 : decode cX12_advanceToken 80 = .ok (.aload_n 0, 1) := by decide +kernel
theorem dX12_advanceToken_81 : decode cX12_advanceToken 81 = .ok (.getfield 180, 3) := by decide +kernel
theorem dX12_advanceToken_84 : decode cX12_advanceToken 84 = .ok (.if_icmp .ne 11, 3) := by decide +kernel
theorem dX12_advanceToken_87 : decode cX12_advanceToken 87 = .ok (.aload_n 0, 1) := by decide +kernel
theorem dX12_advanceToken_88 : decode cX12_advanceToken 88 = .ok (.iconst 0, 1) := by decide +kernel
theorem dX12_advanceToken_89 : decode cX12_advanceToken 89 = .ok (.putfield 206, 3) := by decide +kernel
theorem dX12_advanceToken_92 : decode cX12_advanceToken 92 = .ok (.goto 206, 3) := by decide +kernel
theorem dX12_advanceToken_95 : decode cX12_advanceToken 95 = .ok (.aload_n 0, 1) := by decide +kernel
theorem dX12_advanceToken_96 : decode cX12_advanceToken 96 = .ok (.aload_n 0, 1) := by decide +kernel
theorem dX12_advanceToken_97 : decode cX12_advanceToken 97 = .ok (.getfield 203, 3) := by decide +kernel
theorem dX12_advanceToken_100 : decode cX12_advanceToken 100 = .ok (.invokevirtual 209, 3) := by decide +kernel
theorem dX12_advanceToken_103 : decode cX12_advanceToken 103 = .ok (.ifCond .eq 53, 3) := by decide +kernel
theorem dX12_advanceToken_106 : decode cX12_advanceToken 106 = .ok (.aload_n 0, 1) := by decide +kernel
theorem dX12_advanceToken_107 : decode cX12_advanceToken 107 = .ok (.aload_n 0, 1) := by decide +kernel
theorem dX12_advanceToken_108 : decode cX12_advanceToken 108 = .ok (.getfield 200, 3) := by decide +kernel
theorem dX12_advanceToken_111 : decode cX12_advanceToken 111 = .ok (.invokevirtual 209, 3) := by decide +kernel
theorem dX12_advanceToken_114 : decode cX12_advanceToken 114 = .ok (.ifCond .eq 16, 3) := by decide +kernel
theorem dX12_advanceToken_117 : decode cX12_advanceToken 117 = .ok (.aload_n 0, 1) := by decide +kernel
theorem dX12_advanceToken_118 : decode cX12_advanceToken 118 = .ok (.dup, 1) := by decide +kernel
theorem dX12_advanceToken_119 : decode cX12_advanceToken 119 = .ok (.getfield 200, 3) := by decide +kernel
theorem dX12_advanceToken_122 : decode cX12_advanceToken 122 = .ok (.iconst 1, 1) := by decide +kernel
theorem dX12_advanceToken_123 : decode cX12_advanceToken 123 = .ok (.iadd, 1) := by decide +kernel
theorem dX12_advanceToken_124 : decode cX12_advanceToken 124 = .ok (.putfield 200, 3) := by decide +kernel
theorem dX12_advanceToken_127 : decode cX12_advanceToken 127 = .ok (.goto (-21), 3) := by decide +kernel
theorem dX12_advanceToken_130 : decode cX12_advanceToken 130 = .ok (.aload_n 0, 1) := by decide +kernel
theorem dX12_advanceToken_131 : decode cX12_advanceToken 131 = .ok (.aload_n 0, 1) := by decide +kernel
theorem dX12_advanceToken_132 : decode cX12_advanceToken 132 = .ok (.getfield 200, 3) := by decide +kernel
theorem dX12_advanceToken_135 : decode cX12_advanceToken 135 = .ok (.aload_n 0, 1) := by decide +kernel
theorem dX12_advanceToken_136 : decode cX12_advanceToken 136 = .ok (.getfield 203, 3) := by decide +kernel
theorem dX12_advanceToken_139 : decode cX12_advanceToken 139 = .ok (.isub, 1) := by decide +kernel
theorem dX12_advanceToken_140 : decode cX12_advanceToken 140 = .ok (.bipush 8, 2) := by decide +kernel
theorem dX12_advanceToken_142 : decode cX12_advanceToken 142 = .ok (.if_icmp .le 7, 3) := by decide +kernel
theorem dX12_advanceToken_145 : decode cX12_advanceToken 145 = .ok (.iconst 4, 1) := by decide +kernel
theorem dX12_advanceToken_146 : decode cX12_advanceToken 146 = .ok (.goto 4, 3) := by decide +kernel
theorem dX12_advanceToken_149 : decode cX12_advanceToken 149 = .ok (.iconst 1, 1) := by decide +kernel
theorem dX12_advanceToken_150 : decode cX12_advanceToken 150 = .ok (.putfield 206, 3) := by decide +kernel
theorem dX12_advanceToken_153 : decode cX12_advanceToken 153 = .ok (.goto 145, 3) := by decide +kernel
theorem dX12_advanceToken_156 : decode cX12_advanceToken 156 = .ok (.aload_n 0, 1) := by decide +kernel
theorem dX12_advanceToken_157 : decode cX12_advanceToken 157 = .ok (.aload_n 0, 1) := by decide +kernel
theorem dX12_advanceToken_158 : decode cX12_advanceToken 158 = .ok (.getfield 203, 3) := by decide +kernel
theorem dX12_advanceToken_161 : decode cX12_advanceToken 161 = .ok (.invokevirtual 212, 3) := by decide +kernel
theorem dX12_advanceToken_164 : decode cX12_advanceToken 164 = .ok (.ifCond .eq 101, 3) := by decide +kernel
theorem dX12_advanceToken_167 : decode cX12_advanceToken 167 = .ok (.aload_n 0, 1) := by decide +kernel
theorem dX12_advanceToken_168 : decode cX12_advanceToken 168 = .ok (.iconst 0, 1) := by decide +kernel
theorem dX12_advanceToken_169 : decode cX12_advanceToken 169 = .ok (.putfield 215, 3) := by decide +kernel
theorem dX12_advanceToken_172 : decode cX12_advanceToken 172 = .ok (.aload_n 0, 1) := by decide +kernel
theorem dX12_advanceToken_173 : decode cX12_advanceToken 173 = .ok (.aload_n 0, 1) := by decide +kernel
theorem dX12_advanceToken_174 : decode cX12_advanceToken 174 = .ok (.getfield 200, 3) := by decide +kernel
theorem dX12_advanceToken_177 : decode cX12_advanceToken 177 = .ok (.invokevirtual 212, 3) := by decide +kernel
theorem dX12_advanceToken_180 : decode cX12_advanceToken 180 = .ok (.ifCond .eq 60, 3) := by decide +kernel
theorem dX12_advanceToken_183 : decode cX12_advanceToken 183 = .ok (.aload_n 0, 1) := by decide +kernel
theorem dX12_advanceToken_184 : decode cX12_advanceToken 184 = .ok (.aload_n 0, 1) := by decide +kernel
theorem dX12_advanceToken_185 : decode cX12_advanceToken 185 = .ok (.getfield 200, 3) := by decide +kernel
theorem dX12_advanceToken_188 : decode cX12_advanceToken 188 = .ok (.aload_n 0, 1) := by decide +kernel
theorem dX12_advanceToken_189 : decode cX12_advanceToken 189 = .ok (.getfield 203, 3) := by decide +kernel
theorem dX12_advanceToken_192 : decode cX12_advanceToken 192 = .ok (.isub, 1) := by decide +kernel
theorem dX12_advanceToken_193 : decode cX12_advanceToken 193 = .ok (.iconst 3, 1) := by decide +kernel
theorem dX12_advanceToken_194 : decode cX12_advanceToken 194 = .ok (.if_icmp .ge 26, 3) := by decide +kernel
theorem dX12_advanceToken_197 : decode cX12_advanceToken 197 = .ok (.bipush 10, 2) := by decide +kernel
theorem dX12_advanceToken_199 : decode cX12_advanceToken 199 = .ok (.aload_n 0, 1) := by decide +kernel
theorem dX12_advanceToken_200 : decode cX12_advanceToken 200 = .ok (.getfield 215, 3) := by decide +kernel
theorem dX12_advanceToken_203 : decode cX12_advanceToken 203 = .ok (.imul, 1) := by decide +kernel
theorem dX12_advanceToken_204 : decode cX12_advanceToken 204 = .ok (.aload_n 0, 1) := by decide +kernel
theorem dX12_advanceToken_205 : decode cX12_advanceToken 205 = .ok (.getfield 35, 3) := by decide +kernel
theorem dX12_advanceToken_208 : decode cX12_advanceToken 208 = .ok (.aload_n 0, 1) := by decide +kernel
theorem dX12_advanceToken_209 : decode cX12_advanceToken 209 = .ok (.getfield 200, 3) := by decide +kernel
theorem dX12_advanceToken_212 : decode cX12_advanceToken 212 = .ok (.baload, 1) := by decide +kernel
theorem dX12_advanceToken_213 : decode cX12_advanceToken 213 = .ok (.iadd, 1) := by decide +kernel
theorem dX12_advanceToken_214 : decode cX12_advanceToken 214 = .ok (.bipush 48, 2) := by decide +kernel
theorem dX12_advanceToken_216 : decode cX12_advanceToken 216 = .ok (.isub, 1) := by decide +kernel
theorem dX12_advanceToken_217 : decode cX12_advanceToken 217 = .ok (.goto 7, 3) := by decide +kernel
theorem dX12_advanceToken_220 : decode cX12_advanceToken 220 = .ok (.aload_n 0, 1) := by decide +kernel
theorem dX12_advanceToken_221 : decode cX12_advanceToken 221 = .ok (.getfield 215, 3) := by decide +kernel
theorem dX12_advanceToken_224 : decode cX12_advanceToken 224 = .ok (.putfield 215, 3) := by decide +kernel
theorem dX12_advanceToken_227 : decode cX12_advanceToken 227 = .ok (.aload_n 0, 1) := by decide +kernel
theorem dX12_advanceToken_228 : decode cX12_advanceToken 228 = .ok (.dup, 1) := by decide +kernel
theorem dX12_advanceToken_229 : decode cX12_advanceToken 229 = .ok (.getfield 200, 3) := by decide +kernel
theorem dX12_advanceToken_232 : decode cX12_advanceToken 232 = .ok (.iconst 1, 1) := by decide +kernel
theorem dX12_advanceToken_233 : decode cX12_advanceToken 233 = .ok (.iadd, 1) := by decide +kernel
theorem dX12_advanceToken_234 : decode cX12_advanceToken 234 = .ok (.putfield 200, 3) := by decide +kernel
theorem dX12_advanceToken_237 : decode cX12_advanceToken 237 = .ok (.goto (-65), 3) := by decide +kernel
theorem dX12_advanceToken_240 : decode cX12_advanceToken 240 = .ok (.aload_n 0, 1) := by decide +kernel
theorem dX12_advanceToken_241 : decode cX12_advanceToken 241 = .ok (.aload_n 0, 1) := by decide +kernel
theorem dX12_advanceToken_242 : decode cX12_advanceToken 242 = .ok (.getfield 200, 3) := by decide +kernel
theorem dX12_advanceToken_245 : decode cX12_advanceToken 245 = .ok (.aload_n 0, 1) := by decide +kernel
theorem dX12_advanceToken_246 : decode cX12_advanceToken 246 = .ok (.getfield 203, 3) := by decide +kernel
theorem dX12_advanceToken_249 : decode cX12_advanceToken 249 = .ok (.isub, 1) := by decide +kernel
theorem dX12_advanceToken_250 : decode cX12_advanceToken 250 = .ok (.iconst 3, 1) := by decide +kernel
theorem dX12_advanceToken_251 : decode cX12_advanceToken 251 = .ok (.if_icmp .le 7, 3) := by decide +kernel
theorem dX12_advanceToken_254 : decode cX12_advanceToken 254 = .ok (.iconst 4, 1) := by decide +kernel
theorem dX12_advanceToken_255 : decode cX12_advanceToken 255 = .ok (.goto 4, 3) := by decide +kernel
theorem dX12_advanceToken_258 : decode cX12_advanceToken 258 = .ok (.iconst 2, 1) := by decide +kernel
theorem dX12_advanceToken_259 : decode cX12_advanceToken 259 = .ok (.putfield 206, 3) := by decide +kernel
theorem dX12_advanceToken_262 : decode cX12_advanceToken 262 = .ok (.goto 36, 3) := by decide +kernel
theorem dX12_advanceToken_265 : decode cX12_advanceToken 265 = .ok (.aload_n 0, 1) := by decide +kernel
theorem dX12_advanceToken_266 : decode cX12_advanceToken 266 = .ok (.aload_n 0, 1) := by decide +kernel
theorem dX12_advanceToken_267 : decode cX12_advanceToken 267 = .ok (.getfield 35, 3) := by decide +kernel
theorem dX12_advanceToken_270 : decode cX12_advanceToken 270 = .ok (.aload_n 0, 1) := by decide +kernel
theorem dX12_advanceToken_271 : decode cX12_advanceToken 271 = .ok (.getfield 203, 3) := by decide +kernel
theorem dX12_advanceToken_274 : decode cX12_advanceToken 274 = .ok (.baload, 1) := by decide +kernel
theorem dX12_advanceToken_275 : decode cX12_advanceToken 275 = .ok (.bipush 59, 2) := by decide +kernel
theorem dX12_advanceToken_277 : decode cX12_advanceToken 277 = .ok (.if_icmp .ne 7, 3) := by decide +kernel
theorem dX12_advanceToken_280 : decode cX12_advanceToken 280 = .ok (.iconst 3, 1) := by decide +kernel
theorem dX12_advanceToken_281 : decode cX12_advanceToken 281 = .ok (.goto 4, 3) := by decide +kernel
theorem dX12_advanceToken_284 : decode cX12_advanceToken 284 = .ok (.iconst 4, 1) := by decide +kernel
theorem dX12_advanceToken_285 : decode cX12_advanceToken 285 = .ok (.putfield 206, 3) := by decide +kernel
theorem dX12_advanceToken_288 : decode cX12_advanceToken 288 = .ok (.aload_n 0, 1) := by decide +kernel
theorem dX12_advanceToken_289 : decode cX12_advanceToken 289 = .ok (.dup, 1) := by decide +kernel
theorem dX12_advanceToken_290 : decode cX12_advanceToken 290 = .ok (.getfield 200, 3) := by decide +kernel
theorem dX12_advanceToken_293 : decode cX12_advanceToken 293 = .ok (.iconst 1, 1) := by decide +kernel
theorem dX12_advanceToken_294 : decode cX12_advanceToken 294 = .ok (.iadd, 1) := by decide +kernel
theorem dX12_advanceToken_295 : decode cX12_advanceToken 295 = .ok (.putfield 200, 3) := by decide +kernel
theorem dX12_advanceToken_298 : decode cX12_advanceToken 298 = .ok (.return_, 1) := by decide +kernel
theorem dX12_expect_0 : decode cX12_expect 0 = .ok (.aload_n 0, 1) := by decide +kernel
theorem dX12_expect_1 : decode cX12_expect 1 = .ok (.getfield 197, 3) := by decide +kernel
theorem dX12_expect_4 : decode cX12_expect 4 = .ok (.ifCond .ne 20, 3) := by decide +kernel
theorem dX12_expect_7 : decode cX12_expect 7 = .ok (.iload_n 1, 1) := by decide +kernel
theorem dX12_expect_8 : decode cX12_expect 8 = .ok (.ifCond .ne 16, 3) := by decide +kernel
theorem dX12_expect_11 : decode cX12_expect 11 = .ok (.aload_n 0, 1) := by decide +kernel
theorem dX12_expect_12 : decode cX12_expect 12 = .ok (.iload_n 2, 1) := by decide +kernel
theorem dX12_expect_13 : decode cX12_expect 13 = .ok (.putfield 197, 3) := by decide +kernel
theorem dX12_expect_16 : decode cX12_expect 16 = .ok (.aload_n 0, 1) := by decide +kernel
theorem dX12_expect_17 : decode cX12_expect 17 = .ok (.aload_n 0, 1) := by decide +kernel
theorem dX12_expect_18 : decode cX12_expect 18 = .ok (.getfield 203, 3) := by decide +kernel
theorem dX12_expect_21 : decode cX12_expect 21 = .ok (.putfield 218, 3) := by decide +kernel
theorem dX12_expect_24 : decode cX12_expect 24 = .ok (.return_, 1) := by decide +kernel
theorem dX12_beginText_0 : decode cX12_beginText 0 = .ok (.aload_n 0, 1) := by decide +kernel
theorem dX12_beginText_1 : decode cX12_beginText 1 = .ok (.iconst 0, 1) := by decide +kernel
theorem dX12_beginText_2 : decode cX12_beginText 2 = .ok (.putfield 197, 3) := by decide +kernel
theorem dX12_beginText_5 : decode cX12_beginText 5 = .ok (.aload_n 0, 1) := by decide +kernel
theorem dX12_beginText_6 : decode cX12_beginText 6 = .ok (.iconst 0, 1) := by decide +kernel
theorem dX12_beginText_7 : decode cX12_beginText 7 = .ok (.putfield 200, 3) := by decide +kernel
theorem dX12_beginText_10 : decode cX12_beginText 10 = .ok (.aload_n 0, 1) := by decide +kernel
theorem dX12_beginText_11 : decode cX12_beginText 11 = .ok (.invokevirtual 221, 3) := by decide +kernel
theorem dX12_beginText_14 : decode cX12_beginText 14 = .ok (.return_, 1) := by decide +kernel
theorem dX12_endText_0 : decode cX12_endText 0 = .ok (.aload_n 0, 1) := by decide +kernel
theorem dX12_endText_1 : decode cX12_endText 1 = .ok (.aload_n 0, 1) := by decide +kernel
theorem dX12_endText_2 : decode cX12_endText 2 = .ok (.getfield 197, 3) := by decide +kernel
theorem dX12_endText_5 : decode cX12_endText 5 = .ok (.putfield 186, 3) := by decide +kernel
theorem dX12_endText_8 : decode cX12_endText 8 = .ok (.aload_n 0, 1) := by decide +kernel
theorem dX12_endText_9 : decode cX12_endText 9 = .ok (.aload_n 0, 1) := by decide +kernel
theorem dX12_endText_10 : decode cX12_endText 10 = .ok (.getfield 197, 3) := by decide +kernel
theorem dX12_endText_13 : decode cX12_endText 13 = .ok (.ifCond .ne 7, 3) := by decide +kernel
theorem dX12_endText_16 : decode cX12_endText 16 = .ok (.iconst (-1), 1) := by decide +kernel
theorem dX12_endText_17 : decode cX12_endText 17 = .ok (.goto 7, 3) := by decide +kernel
theorem dX12_endText_20 : decode cX12_endText 20 = .ok (.aload_n 0, 1) := by decide +kernel
theorem dX12_endText_21 : decode cX12_endText 21 = .ok (.getfield 218, 3) := by decide +kernel
theorem dX12_endText_24 : decode cX12_endText 24 = .ok (.putfield 39, 3) := by decide +kernel
theorem dX12_endText_27 : decode cX12_endText 27 = .ok (.aload_n 0, 1) := by decide +kernel
theorem dX12_endText_28 : decode cX12_endText 28 = .ok (.iconst 0, 1) := by decide +kernel
theorem dX12_endText_29 : decode cX12_endText 29 = .ok (.putfield 180, 3) := by decide +kernel
theorem dX12_endText_32 : decode cX12_endText 32 = .ok (.return_, 1) := by decide +kernel
theorem dX12_isWord_0 : decode cX12_isWord 0 = .ok (.aload_n 0, 1) := by decide +kernel
theorem dX12_isWord_1 : decode cX12_isWord 1 = .ok (.getfield 197, 3) := by decide +kernel
theorem dX12_isWord_4 : decode cX12_isWord 4 = .ok (.ifCond .gt 27, 3) := by decide +kernel
theorem dX12_isWord_7 : decode cX12_isWord 7 = .ok (.aload_n 0, 1) := by decide +kernel
theorem dX12_isWord_8 : decode cX12_isWord 8 = .ok (.getfield 206, 3) := by decide +kernel
theorem dX12_isWord_11 : decode cX12_isWord 11 = .ok (.iconst 1, 1) := by decide +kernel
theorem dX12_isWord_12 : decode cX12_isWord 12 = .ok (.if_icmp .ne 19, 3) := by decide +kernel
theorem dX12_isWord_15 : decode cX12_isWord 15 = .ok (.aload_n 0, 1) := by decide +kernel
theorem dX12_isWord_16 : decode cX12_isWord 16 = .ok (.getfield 200, 3) := by decide +kernel
theorem dX12_isWord_19 : decode cX12_isWord 19 = .ok (.aload_n 0, 1) := by decide +kernel
theorem dX12_isWord_20 : decode cX12_isWord 20 = .ok (.getfield 203, 3) := by decide +kernel
theorem dX12_isWord_23 : decode cX12_isWord 23 = .ok (.isub, 1) := by decide +kernel
theorem dX12_isWord_24 : decode cX12_isWord 24 = .ok (.aload_n 1, 1) := by decide +kernel
theorem dX12_isWord_25 : decode cX12_isWord 25 = .ok (.invokevirtual 224, 3) := by decide +kernel
theorem dX12_isWord_28 : decode cX12_isWord 28 = .ok (.if_icmp .eq 5, 3) := by decide +kernel
theorem dX12_isWord_31 : decode cX12_isWord 31 = .ok (.iconst 0, 1) := by decide +kernel
theorem dX12_isWord_32 : decode cX12_isWord 32 = .ok (.ireturn, 1) := by decide +kernel
theorem dX12_isWord_33 : decode cX12_isWord 33 = .ok (.iconst 0, 1) := by decide +kernel
theorem dX12_isWord_34 : decode cX12_isWord 34 = .ok (.istore_n 2, 1) := by decide +kernel
theorem dX12_isWord_35 : decode cX12_isWord 35 = .ok (.iload_n 2, 1) := by decide +kernel
theorem dX12_isWord_36 : decode cX12_isWord 36 = .ok (.aload_n 1, 1) := by decide +kernel
theorem dX12_isWord_37 : decode cX12_isWord 37 = .ok (.invokevirtual 224, 3) := by decide +kernel
theorem dX12_isWord_40 : decode cX12_isWord 40 = .ok (.if_icmp .ge 30, 3) := by decide +kernel
theorem dX12_isWord_43 : decode cX12_isWord 43 = .ok (.aload_n 0, 1) := by decide +kernel
theorem dX12_isWord_44 : decode cX12_isWord 44 = .ok (.getfield 35, 3) := by decide +kernel
theorem dX12_isWord_47 : decode cX12_isWord 47 = .ok (.aload_n 0, 1) := by decide +kernel
theorem dX12_isWord_48 : decode cX12_isWord 48 = .ok (.getfield 203, 3) := by decide +kernel
theorem dX12_isWord_51 : decode cX12_isWord 51 = .ok (.iload_n 2, 1) := by decide +kernel
theorem dX12_isWord_52 : decode cX12_isWord 52 = .ok (.iadd, 1) := by decide +kernel
theorem dX12_isWord_53 : decode cX12_isWord 53 = .ok (.baload, 1) := by decide +kernel
theorem dX12_isWord_54 : decode cX12_isWord 54 = .ok (.aload_n 1, 1) := by decide +kernel
theorem dX12_isWord_55 : decode cX12_isWord 55 = .ok (.iload_n 2, 1) := by decide +kernel
theorem dX12_isWord_56 : decode cX12_isWord 56 = .ok (.invokevirtual 228, 3) := by decide +kernel
theorem dX12_isWord_59 : decode cX12_isWord 59 = .ok (.if_icmp .eq 5, 3) := by decide +kernel
theorem dX12_isWord_62 : decode cX12_isWord 62 = .ok (.iconst 0, 1) := by decide +kernel
theorem dX12_isWord_63 : decode cX12_isWord 63 = .ok (.ireturn, 1) := by decide +kernel
theorem dX12_isWord_64 : decode cX12_isWord 64 = .ok (.iinc 2 1, 3) := by decide +kernel
theorem dX12_isWord_67 : decode cX12_isWord 67 = .ok (.goto (-32), 3) := by decide +kernel
theorem dX12_isWord_70 : decode cX12_isWord 70 = .ok (.iconst 1, 1) := by decide +kernel
theorem dX12_isWord_71 : decode cX12_isWord 71 = .ok (.ireturn, 1) := by decide +kernel
theorem dX12_parseNumber_0 : decode cX12_parseNumber 0 = .ok (.aload_n 0, 1) := by decide +kernel
theorem dX12_parseNumber_1 : decode cX12_parseNumber 1 = .ok (.aload_n 0, 1) := by decide +kernel
theorem dX12_parseNumber_2 : decode cX12_parseNumber 2 = .ok (.getfield 206, 3) := by decide +kernel
theorem dX12_parseNumber_5 : decode cX12_parseNumber 5 = .ok (.iconst 2, 1) := by decide +kernel
theorem dX12_parseNumber_6 : decode cX12_parseNumber 6 = .ok (.if_icmp .ne 7, 3) := by decide +kernel
theorem dX12_parseNumber_9 : decode cX12_parseNumber 9 = .ok (.iconst 1, 1) := by decide +kernel
theorem dX12_parseNumber_10 : decode cX12_parseNumber 10 = .ok (.goto 4, 3) := by decide +kernel
theorem dX12_parseNumber_13 : decode cX12_parseNumber 13 = .ok (.iconst 0, 1) := by decide +kernel
theorem dX12_parseNumber_14 : decode cX12_parseNumber 14 = .ok (.iconst 1, 1) := by decide +kernel
theorem dX12_parseNumber_15 : decode cX12_parseNumber 15 = .ok (.invokevirtual 232, 3) := by decide +kernel
theorem dX12_parseNumber_18 : decode cX12_parseNumber 18 = .ok (.aload_n 0, 1) := by decide +kernel
theorem dX12_parseNumber_19 : decode cX12_parseNumber 19 = .ok (.aload_n 0, 1) := by decide +kernel
theorem dX12_parseNumber_20 : decode cX12_parseNumber 20 = .ok (.getfield 215, 3) := by decide +kernel
theorem dX12_parseNumber_23 : decode cX12_parseNumber 23 = .ok (.i2l, 1) := by decide +kernel
theorem dX12_parseNumber_24 : decode cX12_parseNumber 24 = .ok (.iload_n 1, 1) := by decide +kernel
theorem dX12_parseNumber_25 : decode cX12_parseNumber 25 = .ok (.i2l, 1) := by decide +kernel
theorem dX12_parseNumber_26 : decode cX12_parseNumber 26 = .ok (.iload_n 2, 1) := by decide +kernel
theorem dX12_parseNumber_27 : decode cX12_parseNumber 27 = .ok (.i2l, 1) := by decide +kernel
theorem dX12_parseNumber_28 : decode cX12_parseNumber 28 = .ok (.invokestatic 167, 3) := by decide +kernel
theorem dX12_parseNumber_31 : decode cX12_parseNumber 31 = .ok (.iconst 2, 1) := by decide +kernel
theorem dX12_parseNumber_32 : decode cX12_parseNumber 32 = .ok (.invokevirtual 232, 3) := by decide +kernel
theorem dX12_parseNumber_35 : decode cX12_parseNumber 35 = .ok (.aload_n 0, 1) := by decide +kernel
theorem dX12_parseNumber_36 : decode cX12_parseNumber 36 = .ok (.getfield 197, 3) := by decide +kernel
theorem dX12_parseNumber_39 : decode cX12_parseNumber 39 = .ok (.ifCond .ne 10, 3) := by decide +kernel
theorem dX12_parseNumber_42 : decode cX12_parseNumber 42 = .ok (.aload_n 0, 1) := by decide +kernel
theorem dX12_parseNumber_43 : decode cX12_parseNumber 43 = .ok (.getfield 215, 3) := by decide +kernel
theorem dX12_parseNumber_46 : decode cX12_parseNumber 46 = .ok (.goto 4, 3) := by decide +kernel
theorem dX12_parseNumber_49 : decode cX12_parseNumber 49 = .ok (.iload_n 1, 1) := by decide +kernel
theorem dX12_parseNumber_50 : decode cX12_parseNumber 50 = .ok (.istore_n 3, 1) := by decide +kernel
theorem dX12_parseNumber_51 : decode cX12_parseNumber 51 = .ok (.aload_n 0, 1) := by decide +kernel
theorem dX12_parseNumber_52 : decode cX12_parseNumber 52 = .ok (.invokevirtual 221, 3) := by decide +kernel
theorem dX12_parseNumber_55 : decode cX12_parseNumber 55 = .ok (.iload_n 3, 1) := by decide +kernel
theorem dX12_parseNumber_56 : decode cX12_parseNumber 56 = .ok (.ireturn, 1) := by decide +kernel
theorem dX12_parseSemicolon_0 : decode cX12_parseSemicolon 0 = .ok (.aload_n 0, 1) := by decide +kernel
theorem dX12_parseSemicolon_1 : decode cX12_parseSemicolon 1 = .ok (.aload_n 0, 1) := by decide +kernel
theorem dX12_parseSemicolon_2 : decode cX12_parseSemicolon 2 = .ok (.getfield 206, 3) := by decide +kernel
theorem dX12_parseSemicolon_5 : decode cX12_parseSemicolon 5 = .ok (.iconst 3, 1) := by decide +kernel
theorem dX12_parseSemicolon_6 : decode cX12_parseSemicolon 6 = .ok (.if_icmp .ne 7, 3) := by decide +kernel
theorem dX12_parseSemicolon_9 : decode cX12_parseSemicolon 9 = .ok (.iconst 1, 1) := by decide +kernel
theorem dX12_parseSemicolon_10 : decode cX12_parseSemicolon 10 = .ok (.goto 4, 3) := by decide +kernel
theorem dX12_parseSemicolon_13 : decode cX12_parseSemicolon 13 = .ok (.iconst 0, 1) := by decide +kernel
theorem dX12_parseSemicolon_14 : decode cX12_parseSemicolon 14 = .ok (.iconst 1, 1) := by decide +kernel
theorem dX12_parseSemicolon_15 : decode cX12_parseSemicolon 15 = .ok (.invokevirtual 232, 3) := by decide +kernel
theorem dX12_parseSemicolon_18 : decode cX12_parseSemicolon 18 = .ok (.aload_n 0, 1) := by decide +kernel
theorem dX12_parseSemicolon_19 : decode cX12_parseSemicolon 19 = .ok (.invokevirtual 221, 3) := by decide +kernel
theorem dX12_parseSemicolon_22 : decode cX12_parseSemicolon 22 = .ok (.return_, 1) := by decide +kernel
theorem dX12_parseValue_0 : decode cX12_parseValue 0 = .ok (.aload_n 0, 1) := by decide +kernel
theorem dX12_parseValue_1 : decode cX12_parseValue 1 = .ok (.ldc 236, 2) := by decide +kernel
theorem dX12_parseValue_3 : decode cX12_parseValue 3 = .ok (.invokevirtual 238, 3) := by decide +kernel
theorem dX12_parseValue_6 : decode cX12_parseValue 6 = .ok (.istore_n 2, 1) := by decide +kernel
theorem dX12_parseValue_7 : decode cX12_parseValue 7 = .ok (.aload_n 0, 1) := by decide +kernel
theorem dX12_parseValue_8 : decode cX12_parseValue 8 = .ok (.iload_n 2, 1) := by decide +kernel
theorem dX12_parseValue_9 : decode cX12_parseValue 9 = .ok (.ifCond .ne 11, 3) := by decide +kernel
theorem dX12_parseValue_12 : decode cX12_parseValue 12 = .ok (.aload_n 0, 1) := by decide +kernel
theorem dX12_parseValue_13 : decode cX12_parseValue 13 = .ok (.getfield 206, 3) := by decide +kernel
theorem dX12_parseValue_16 : decode cX12_parseValue 16 = .ok (.iconst 2, 1) := by decide +kernel
theorem dX12_parseValue_17 : decode cX12_parseValue 17 = .ok (.if_icmp .ne 7, 3) := by decide +kernel
theorem dX12_parseValue_20 : decode cX12_parseValue 20 = .ok (.iconst 1, 1) := by decide +kernel
theorem dX12_parseValue_21 : decode cX12_parseValue 21 = .ok (.goto 4, 3) := by decide +kernel
theorem dX12_parseValue_24 : decode cX12_parseValue 24 = .ok (.iconst 0, 1) := by decide +kernel
theorem dX12_parseValue_25 : decode cX12_parseValue 25 = .ok (.iconst 1, 1) := by decide +kernel
theorem dX12_parseValue_26 : decode cX12_parseValue 26 = .ok (.invokevirtual 232, 3) := by decide +kernel
theorem dX12_parseValue_29 : decode cX12_parseValue 29 = .ok (.aload_n 0, 1) := by decide +kernel
theorem dX12_parseValue_30 : decode cX12_parseValue 30 = .ok (.iload_n 1, 1) := by decide +kernel
theorem dX12_parseValue_31 : decode cX12_parseValue 31 = .ok (.iconst 3, 1) := by decide +kernel
theorem dX12_parseValue_32 : decode cX12_parseValue 32 = .ok (.invokevirtual 232, 3) := by decide +kernel
theorem dX12_parseValue_35 : decode cX12_parseValue 35 = .ok (.iload_n 2, 1) := by decide +kernel
theorem dX12_parseValue_36 : decode cX12_parseValue 36 = .ok (.ifCond .eq 7, 3) := by decide +kernel
theorem dX12_parseValue_39 : decode cX12_parseValue 39 = .ok (.aload_n 0, 1) := by decide +kernel
theorem dX12_parseValue_40 : decode cX12_parseValue 40 = .ok (.invokevirtual 221, 3) := by decide +kernel
theorem dX12_parseValue_43 : decode cX12_parseValue 43 = .ok (.aload_n 0, 1) := by decide +kernel
theorem dX12_parseValue_44 : decode cX12_parseValue 44 = .ok (.iconst 0, 1) := by decide +kernel
theorem dX12_parseValue_45 : decode cX12_parseValue 45 = .ok (.sipush 999, 3) := by decide +kernel
theorem dX12_parseValue_48 : decode cX12_parseValue 48 = .ok (.invokevirtual 242, 3) := by decide +kernel
theorem dX12_parseValue_51 : decode cX12_parseValue 51 = .ok (.istore_n 3, 1) := by decide +kernel
theorem dX12_parseValue_52 : decode cX12_parseValue 52 = .ok (.iload_n 2, 1) := by decide +kernel
theorem dX12_parseValue_53 : decode cX12_parseValue 53 = .ok (.ifCond .eq 8, 3) := by decide +kernel
theorem dX12_parseValue_56 : decode cX12_parseValue 56 = .ok (.iload_n 3, 1) := by decide +kernel
theorem dX12_parseValue_57 : decode cX12_parseValue 57 = .ok (.ineg, 1) := by decide +kernel
theorem dX12_parseValue_58 : decode cX12_parseValue 58 = .ok (.goto 4, 3) := by decide +kernel
theorem dX12_parseValue_61 : decode cX12_parseValue 61 = .ok (.iload_n 3, 1) := by decide +kernel
theorem dX12_parseValue_62 : decode cX12_parseValue 62 = .ok (.ireturn, 1) := by decide +kernel
theorem dX12_parseList_0 : decode cX12_parseList 0 = .ok (.aload_n 0, 1) := by decide +kernel
theorem dX12_parseList_1 : decode cX12_parseList 1 = .ok (.aload_n 0, 1) := by decide +kernel
theorem dX12_parseList_2 : decode cX12_parseList 2 = .ok (.ldc 245, 2) := by decide +kernel
theorem dX12_parseList_4 : decode cX12_parseList 4 = .ok (.invokevirtual 238, 3) := by decide +kernel
theorem dX12_parseList_7 : decode cX12_parseList 7 = .ok (.iconst 1, 1) := by decide +kernel
theorem dX12_parseList_8 : decode cX12_parseList 8 = .ok (.invokevirtual 232, 3) := by decide +kernel
theorem dX12_parseList_11 : decode cX12_parseList 11 = .ok (.aload_n 0, 1) := by decide +kernel
theorem dX12_parseList_12 : decode cX12_parseList 12 = .ok (.invokevirtual 221, 3) := by decide +kernel
theorem dX12_parseList_15 : decode cX12_parseList 15 = .ok (.aload_n 0, 1) := by decide +kernel
theorem dX12_parseList_16 : decode cX12_parseList 16 = .ok (.getfield 197, 3) := by decide +kernel
theorem dX12_parseList_19 : decode cX12_parseList 19 = .ok (.ifCond .ne 60, 3) := by decide +kernel
theorem dX12_parseList_22 : decode cX12_parseList 22 = .ok (.aload_n 0, 1) := by decide +kernel
theorem dX12_parseList_23 : decode cX12_parseList 23 = .ok (.getfield 206, 3) := by decide +kernel
theorem dX12_parseList_26 : decode cX12_parseList 26 = .ok (.iconst 3, 1) := by decide +kernel
theorem dX12_parseList_27 : decode cX12_parseList 27 = .ok (.if_icmp .eq 52, 3) := by decide +kernel
theorem dX12_parseList_30 : decode cX12_parseList 30 = .ok (.aload_n 0, 1) := by decide +kernel
theorem dX12_parseList_31 : decode cX12_parseList 31 = .ok (.aload_n 0, 1) := by decide +kernel
theorem dX12_parseList_32 : decode cX12_parseList 32 = .ok (.getfield 52, 3) := by decide +kernel
theorem dX12_parseList_35 : decode cX12_parseList 35 = .ok (.bipush 64, 2) := by decide +kernel
theorem dX12_parseList_37 : decode cX12_parseList 37 = .ok (.if_icmp .ge 7, 3) := by decide +kernel
theorem dX12_parseList_40 : decode cX12_parseList 40 = .ok (.iconst 1, 1) := by decide +kernel
theorem dX12_parseList_41 : decode cX12_parseList 41 = .ok (.goto 4, 3) := by decide +kernel
theorem dX12_parseList_44 : decode cX12_parseList 44 = .ok (.iconst 0, 1) := by decide +kernel
theorem dX12_parseList_45 : decode cX12_parseList 45 = .ok (.invokevirtual 247, 3) := by decide +kernel
theorem dX12_parseList_48 : decode cX12_parseList 48 = .ok (.istore_n 1, 1) := by decide +kernel
theorem dX12_parseList_49 : decode cX12_parseList 49 = .ok (.aload_n 0, 1) := by decide +kernel
theorem dX12_parseList_50 : decode cX12_parseList 50 = .ok (.getfield 197, 3) := by decide +kernel
theorem dX12_parseList_53 : decode cX12_parseList 53 = .ok (.ifCond .ne 23, 3) := by decide +kernel
theorem dX12_parseList_56 : decode cX12_parseList 56 = .ok (.aload_n 0, 1) := by decide +kernel
theorem dX12_parseList_57 : decode cX12_parseList 57 = .ok (.getfield 26, 3) := by decide +kernel
theorem dX12_parseList_60 : decode cX12_parseList 60 = .ok (.aload_n 0, 1) := by decide +kernel
theorem dX12_parseList_61 : decode cX12_parseList 61 = .ok (.getfield 52, 3) := by decide +kernel
theorem dX12_parseList_64 : decode cX12_parseList 64 = .ok (.iload_n 1, 1) := by decide +kernel
theorem dX12_parseList_65 : decode cX12_parseList 65 = .ok (.iastore, 1) := by decide +kernel
theorem dX12_parseList_66 : decode cX12_parseList 66 = .ok (.aload_n 0, 1) := by decide +kernel
theorem dX12_parseList_67 : decode cX12_parseList 67 = .ok (.dup, 1) := by decide +kernel
theorem dX12_parseList_68 : decode cX12_parseList 68 = .ok (.getfield 52, 3) := by decide +kernel
theorem dX12_parseList_71 : decode cX12_parseList 71 = .ok (.iconst 1, 1) := by decide +kernel
theorem dX12_parseList_72 : decode cX12_parseList 72 = .ok (.iadd, 1) := by decide +kernel
theorem dX12_parseList_73 : decode cX12_parseList 73 = .ok (.putfield 52, 3) := by decide +kernel
theorem dX12_parseList_76 : decode cX12_parseList 76 = .ok (.goto (-61), 3) := by decide +kernel
theorem dX12_parseList_79 : decode cX12_parseList 79 = .ok (.aload_n 0, 1) := by decide +kernel
theorem dX12_parseList_80 : decode cX12_parseList 80 = .ok (.invokevirtual 250, 3) := by decide +kernel
theorem dX12_parseList_83 : decode cX12_parseList 83 = .ok (.return_, 1) := by decide +kernel
theorem dX12_loadSetup_0 : decode cX12_loadSetup 0 = .ok (.aload_n 0, 1) := by decide +kernel
theorem dX12_loadSetup_1 : decode cX12_loadSetup 1 = .ok (.iconst 0, 1) := by decide +kernel
theorem dX12_loadSetup_2 : decode cX12_loadSetup 2 = .ok (.putfield 58, 3) := by decide +kernel
theorem dX12_loadSetup_5 : decode cX12_loadSetup 5 = .ok (.aload_n 0, 1) := by decide +kernel
theorem dX12_loadSetup_6 : decode cX12_loadSetup 6 = .ok (.iconst 0, 1) := by decide +kernel
theorem dX12_loadSetup_7 : decode cX12_loadSetup 7 = .ok (.putfield 52, 3) := by decide +kernel
theorem dX12_loadSetup_10 : decode cX12_loadSetup 10 = .ok (.aload_n 0, 1) := by decide +kernel
theorem dX12_loadSetup_11 : decode cX12_loadSetup 11 = .ok (.invokevirtual 253, 3) := by decide +kernel
theorem dX12_loadSetup_14 : decode cX12_loadSetup 14 = .ok (.aload_n 0, 1) := by decide +kernel
theorem dX12_loadSetup_15 : decode cX12_loadSetup 15 = .ok (.getfield 197, 3) := by decide +kernel
theorem dX12_loadSetup_18 : decode cX12_loadSetup 18 = .ok (.ifCond .ne 17, 3) := by decide +kernel
theorem dX12_loadSetup_21 : decode cX12_loadSetup 21 = .ok (.aload_n 0, 1) := by decide +kernel
theorem dX12_loadSetup_22 : decode cX12_loadSetup 22 = .ok (.getfield 206, 3) := by decide +kernel
theorem dX12_loadSetup_25 : decode cX12_loadSetup 25 = .ok (.ifCond .eq 10, 3) := by decide +kernel
theorem dX12_loadSetup_28 : decode cX12_loadSetup 28 = .ok (.aload_n 0, 1) := by decide +kernel
theorem dX12_loadSetup_29 : decode cX12_loadSetup 29 = .ok (.invokevirtual 256, 3) := by decide +kernel
theorem dX12_loadSetup_32 : decode cX12_loadSetup 32 = .ok (.goto (-18), 3) := by decide +kernel
theorem dX12_loadSetup_35 : decode cX12_loadSetup 35 = .ok (.aload_n 0, 1) := by decide +kernel
theorem dX12_loadSetup_36 : decode cX12_loadSetup 36 = .ok (.invokevirtual 259, 3) := by decide +kernel
theorem dX12_loadSetup_39 : decode cX12_loadSetup 39 = .ok (.aload_n 0, 1) := by decide +kernel
theorem dX12_loadSetup_40 : decode cX12_loadSetup 40 = .ok (.getfield 197, 3) := by decide +kernel
theorem dX12_loadSetup_43 : decode cX12_loadSetup 43 = .ok (.ifCond .le 5, 3) := by decide +kernel
theorem dX12_loadSetup_46 : decode cX12_loadSetup 46 = .ok (.iconst (-1), 1) := by decide +kernel
theorem dX12_loadSetup_47 : decode cX12_loadSetup 47 = .ok (.ireturn, 1) := by decide +kernel
theorem dX12_loadSetup_48 : decode cX12_loadSetup 48 = .ok (.aload_n 0, 1) := by decide +kernel
theorem dX12_loadSetup_49 : decode cX12_loadSetup 49 = .ok (.invokevirtual 55, 3) := by decide +kernel
theorem dX12_loadSetup_52 : decode cX12_loadSetup 52 = .ok (.aload_n 0, 1) := by decide +kernel
theorem dX12_loadSetup_53 : decode cX12_loadSetup 53 = .ok (.iconst 0, 1) := by decide +kernel
theorem dX12_loadSetup_54 : decode cX12_loadSetup 54 = .ok (.putfield 61, 3) := by decide +kernel
theorem dX12_loadSetup_57 : decode cX12_loadSetup 57 = .ok (.aload_n 0, 1) := by decide +kernel
theorem dX12_loadSetup_58 : decode cX12_loadSetup 58 = .ok (.iconst 0, 1) := by decide +kernel
theorem dX12_loadSetup_59 : decode cX12_loadSetup 59 = .ok (.putfield 262, 3) := by decide +kernel
theorem dX12_loadSetup_62 : decode cX12_loadSetup 62 = .ok (.aload_n 0, 1) := by decide +kernel
theorem dX12_loadSetup_63 : decode cX12_loadSetup 63 = .ok (.getfield 52, 3) := by decide +kernel
theorem dX12_loadSetup_66 : decode cX12_loadSetup 66 = .ok (.ireturn, 1) := by decide +kernel
theorem dX12_statementKind_0 : decode cX12_statementKind 0 = .ok (.aload_n 0, 1) := by decide +kernel
theorem dX12_statementKind_1 : decode cX12_statementKind 1 = .ok (.ldc_w 266, 3) := by decide +kernel
theorem dX12_statementKind_4 : decode cX12_statementKind 4 = .ok (.invokevirtual 238, 3) := by decide +kernel
theorem dX12_statementKind_7 : decode cX12_statementKind 7 = .ok (.ifCond .eq 5, 3) := by decide +kernel
theorem dX12_statementKind_10 : decode cX12_statementKind 10 = .ok (.iconst 0, 1) := by decide +kernel
theorem dX12_statementKind_11 : decode cX12_statementKind 11 = .ok (.ireturn, 1) := by decide +kernel
theorem dX12_statementKind_12 : decode cX12_statementKind 12 = .ok (.aload_n 0, 1) := by decide +kernel
theorem dX12_statementKind_13 : decode cX12_statementKind 13 = .ok (.ldc_w 268, 3) := by decide +kernel
theorem dX12_statementKind_16 : decode cX12_statementKind 16 = .ok (.invokevirtual 238, 3) := by decide +kernel
theorem dX12_statementKind_19 : decode cX12_statementKind 19 = .ok (.ifCond .eq 5, 3) := by decide +kernel
theorem dX12_statementKind_22 : decode cX12_statementKind 22 = .ok (.iconst 1, 1) := by decide +kernel
theorem dX12_statementKind_23 : decode cX12_statementKind 23 = .ok (.ireturn, 1) := by decide +kernel
theorem dX12_statementKind_24 : decode cX12_statementKind 24 = .ok (.aload_n 0, 1) := by decide +kernel
theorem dX12_statementKind_25 : decode cX12_statementKind 25 = .ok (.ldc_w 270, 3) := by decide +kernel
theorem dX12_statementKind_28 : decode cX12_statementKind 28 = .ok (.invokevirtual 238, 3) := by decide +kernel
theorem dX12_statementKind_31 : decode cX12_statementKind 31 = .ok (.ifCond .eq 5, 3) := by decide +kernel
theorem dX12_statementKind_34 : decode cX12_statementKind 34 = .ok (.iconst 2, 1) := by decide +kernel
theorem dX12_statementKind_35 : decode cX12_statementKind 35 = .ok (.ireturn, 1) := by decide +kernel
theorem dX12_statementKind_36 : decode cX12_statementKind 36 = .ok (.aload_n 0, 1) := by decide +kernel
theorem dX12_statementKind_37 : decode cX12_statementKind 37 = .ok (.ldc_w 272, 3) := by decide +kernel
theorem dX12_statementKind_40 : decode cX12_statementKind 40 = .ok (.invokevirtual 238, 3) := by decide +kernel
theorem dX12_statementKind_43 : decode cX12_statementKind 43 = .ok (.ifCond .eq 5, 3) := by decide +kernel
theorem dX12_statementKind_46 : decode cX12_statementKind 46 = .ok (.iconst 3, 1) := by decide +kernel
theorem dX12_statementKind_47 : decode cX12_statementKind 47 = .ok (.ireturn, 1) := by decide +kernel
theorem dX12_statementKind_48 : decode cX12_statementKind 48 = .ok (.aload_n 0, 1) := by decide +kernel
theorem dX12_statementKind_49 : decode cX12_statementKind 49 = .ok (.ldc_w 274, 3) := by decide +kernel
theorem dX12_statementKind_52 : decode cX12_statementKind 52 = .ok (.invokevirtual 238, 3) := by decide +kernel
theorem dX12_statementKind_55 : decode cX12_statementKind 55 = .ok (.ifCond .eq 7, 3) := by decide +kernel
theorem dX12_statementKind_58 : decode cX12_statementKind 58 = .ok (.iconst 4, 1) := by decide +kernel
theorem dX12_statementKind_59 : decode cX12_statementKind 59 = .ok (.goto 4, 3) := by decide +kernel
theorem dX12_statementKind_62 : decode cX12_statementKind 62 = .ok (.iconst (-1), 1) := by decide +kernel
theorem dX12_statementKind_63 : decode cX12_statementKind 63 = .ok (.ireturn, 1) := by decide +kernel
theorem dX12_parseVersion_0 : decode cX12_parseVersion 0 = .ok (.aload_n 0, 1) := by decide +kernel
theorem dX12_parseVersion_1 : decode cX12_parseVersion 1 = .ok (.iconst 0, 1) := by decide +kernel
theorem dX12_parseVersion_2 : decode cX12_parseVersion 2 = .ok (.bipush 39, 2) := by decide +kernel
theorem dX12_parseVersion_4 : decode cX12_parseVersion 4 = .ok (.invokevirtual 242, 3) := by decide +kernel
theorem dX12_parseVersion_7 : decode cX12_parseVersion 7 = .ok (.ireturn, 1) := by decide +kernel
theorem dX12_parseStatement_0 : decode cX12_parseStatement 0 = .ok (.aload_n 0, 1) := by decide +kernel
theorem dX12_parseStatement_1 : decode cX12_parseStatement 1 = .ok (.invokevirtual 276, 3) := by decide +kernel
theorem dX12_parseStatement_4 : decode cX12_parseStatement 4 = .ok (.istore_n 1, 1) := by decide +kernel
theorem dX12_parseStatement_5 : decode cX12_parseStatement 5 = .ok (.aload_n 0, 1) := by decide +kernel
theorem dX12_parseStatement_6 : decode cX12_parseStatement 6 = .ok (.iload_n 1, 1) := by decide +kernel
theorem dX12_parseStatement_7 : decode cX12_parseStatement 7 = .ok (.iconst (-1), 1) := by decide +kernel
theorem dX12_parseStatement_8 : decode cX12_parseStatement 8 = .ok (.if_icmp .eq 7, 3) := by decide +kernel
theorem dX12_parseStatement_11 : decode cX12_parseStatement 11 = .ok (.iconst 1, 1) := by decide +kernel
theorem dX12_parseStatement_12 : decode cX12_parseStatement 12 = .ok (.goto 4, 3) := by decide +kernel
theorem dX12_parseStatement_15 : decode cX12_parseStatement 15 = .ok (.iconst 0, 1) := by decide +kernel
theorem dX12_parseStatement_16 : decode cX12_parseStatement 16 = .ok (.iconst 1, 1) := by decide +kernel
theorem dX12_parseStatement_17 : decode cX12_parseStatement 17 = .ok (.invokevirtual 232, 3) := by decide +kernel
theorem dX12_parseStatement_20 : decode cX12_parseStatement 20 = .ok (.aload_n 0, 1) := by decide +kernel
theorem dX12_parseStatement_21 : decode cX12_parseStatement 21 = .ok (.aload_n 0, 1) := by decide +kernel
theorem dX12_parseStatement_22 : decode cX12_parseStatement 22 = .ok (.getfield 279, 3) := by decide +kernel
theorem dX12_parseStatement_25 : decode cX12_parseStatement 25 = .ok (.bipush 30, 2) := by decide +kernel
theorem dX12_parseStatement_27 : decode cX12_parseStatement 27 = .ok (.if_icmp .ge 7, 3) := by decide +kernel
theorem dX12_parseStatement_30 : decode cX12_parseStatement 30 = .ok (.iconst 1, 1) := by decide +kernel
theorem dX12_parseStatement_31 : decode cX12_parseStatement 31 = .ok (.goto 4, 3) := by decide +kernel
theorem dX12_parseStatement_34 : decode cX12_parseStatement 34 = .ok (.iconst 0, 1) := by decide +kernel
theorem dX12_parseStatement_35 : decode cX12_parseStatement 35 = .ok (.iconst 3, 1) := by decide +kernel
theorem dX12_parseStatement_36 : decode cX12_parseStatement 36 = .ok (.invokevirtual 232, 3) := by decide +kernel
theorem dX12_parseStatement_39 : decode cX12_parseStatement 39 = .ok (.aload_n 0, 1) := by decide +kernel
theorem dX12_parseStatement_40 : decode cX12_parseStatement 40 = .ok (.invokevirtual 221, 3) := by decide +kernel
theorem dX12_parseStatement_43 : decode cX12_parseStatement 43 = .ok (.aload_n 0, 1) := by decide +kernel
theorem dX12_parseStatement_44 : decode cX12_parseStatement 44 = .ok (.getfield 197, 3) := by decide +kernel
theorem dX12_parseStatement_47 : decode cX12_parseStatement 47 = .ok (.ifCond .le 4, 3) := by decide +kernel
theorem dX12_parseStatement_50 : decode cX12_parseStatement 50 = .ok (.return_, 1) := by decide +kernel
theorem dX12_parseStatement_51 : decode cX12_parseStatement 51 = .ok (.iconst 4, 1) := by decide +kernel
theorem dX12_parseStatement_52 : decode cX12_parseStatement 52 = .ok (.aload_n 0, 1) := by decide +kernel
theorem dX12_parseStatement_53 : decode cX12_parseStatement 53 = .ok (.getfield 279, 3) := by decide +kernel
theorem dX12_parseStatement_56 : decode cX12_parseStatement 56 = .ok (.imul, 1) := by decide +kernel
theorem dX12_parseStatement_57 : decode cX12_parseStatement 57 = .ok (.istore_n 2, 1) := by decide +kernel
theorem dX12_parseStatement_58 : decode cX12_parseStatement 58 = .ok (.aload_n 0, 1) := by decide +kernel
theorem dX12_parseStatement_59 : decode cX12_parseStatement 59 = .ok (.getfield 43, 3) := by decide +kernel
theorem dX12_parseStatement_62 : decode cX12_parseStatement 62 = .ok (.iload_n 2, 1) := by decide +kernel
theorem dX12_parseStatement_63 : decode cX12_parseStatement 63 = .ok (.iload_n 1, 1) := by decide +kernel
theorem dX12_parseStatement_64 : decode cX12_parseStatement 64 = .ok (.iastore, 1) := by decide +kernel
theorem dX12_parseStatement_65 : decode cX12_parseStatement 65 = .ok (.iload_n 1, 1) := by decide +kernel
theorem dX12_parseStatement_66 : decode cX12_parseStatement 66 = .ok (.tableswitch 146 0 3 #[30, 73, 101, 131], 30) := by decide +kernel
theorem dX12_parseStatement_96 : decode cX12_parseStatement 96 = .ok (.aload_n 0, 1) := by decide +kernel
theorem dX12_parseStatement_97 : decode cX12_parseStatement 97 = .ok (.getfield 43, 3) := by decide +kernel
theorem dX12_parseStatement_100 : decode cX12_parseStatement 100 = .ok (.iload_n 2, 1) := by decide +kernel
theorem dX12_parseStatement_101 : decode cX12_parseStatement 101 = .ok (.iconst 1, 1) := by decide +kernel
theorem dX12_parseStatement_102 : decode cX12_parseStatement 102 = .ok (.iadd, 1) := by decide +kernel
theorem dX12_parseStatement_103 : decode cX12_parseStatement 103 = .ok (.aload_n 0, 1) := by decide +kernel
theorem dX12_parseStatement_104 : decode cX12_parseStatement 104 = .ok (.invokevirtual 282, 3) := by decide +kernel
theorem dX12_parseStatement_107 : decode cX12_parseStatement 107 = .ok (.iastore, 1) := by decide +kernel
theorem dX12_parseStatement_108 : decode cX12_parseStatement 108 = .ok (.aload_n 0, 1) := by decide +kernel
theorem dX12_parseStatement_109 : decode cX12_parseStatement 109 = .ok (.getfield 43, 3) := by decide +kernel
theorem dX12_parseStatement_112 : decode cX12_parseStatement 112 = .ok (.iload_n 2, 1) := by decide +kernel
theorem dX12_parseStatement_113 : decode cX12_parseStatement 113 = .ok (.iconst 2, 1) := by decide +kernel
theorem dX12_parseStatement_114 : decode cX12_parseStatement 114 = .ok (.iadd, 1) := by decide +kernel
theorem dX12_parseStatement_115 : decode cX12_parseStatement 115 = .ok (.aload_n 0, 1) := by decide +kernel
theorem dX12_parseStatement_116 : decode cX12_parseStatement 116 = .ok (.iconst 0, 1) := by decide +kernel
theorem dX12_parseStatement_117 : decode cX12_parseStatement 117 = .ok (.bipush 63, 2) := by decide +kernel
theorem dX12_parseStatement_119 : decode cX12_parseStatement 119 = .ok (.invokevirtual 242, 3) := by decide +kernel
theorem dX12_parseStatement_122 : decode cX12_parseStatement 122 = .ok (.iastore, 1) := by decide +kernel
theorem dX12_parseStatement_123 : decode cX12_parseStatement 123 = .ok (.aload_n 0, 1) := by decide +kernel
theorem dX12_parseStatement_124 : decode cX12_parseStatement 124 = .ok (.getfield 43, 3) := by decide +kernel
theorem dX12_parseStatement_127 : decode cX12_parseStatement 127 = .ok (.iload_n 2, 1) := by decide +kernel
theorem dX12_parseStatement_128 : decode cX12_parseStatement 128 = .ok (.iconst 3, 1) := by decide +kernel
theorem dX12_parseStatement_129 : decode cX12_parseStatement 129 = .ok (.iadd, 1) := by decide +kernel
theorem dX12_parseStatement_130 : decode cX12_parseStatement 130 = .ok (.aload_n 0, 1) := by decide +kernel
theorem dX12_parseStatement_131 : decode cX12_parseStatement 131 = .ok (.iconst 1, 1) := by decide +kernel
theorem dX12_parseStatement_132 : decode cX12_parseStatement 132 = .ok (.invokevirtual 247, 3) := by decide +kernel
theorem dX12_parseStatement_135 : decode cX12_parseStatement 135 = .ok (.iastore, 1) := by decide +kernel
theorem dX12_parseStatement_136 : decode cX12_parseStatement 136 = .ok (.goto 76, 3) := by decide +kernel
theorem dX12_parseStatement_139 : decode cX12_parseStatement 139 = .ok (.aload_n 0, 1) := by decide +kernel
theorem dX12_parseStatement_140 : decode cX12_parseStatement 140 = .ok (.getfield 43, 3) := by decide +kernel
theorem dX12_parseStatement_143 : decode cX12_parseStatement 143 = .ok (.iload_n 2, 1) := by decide +kernel
theorem dX12_parseStatement_144 : decode cX12_parseStatement 144 = .ok (.iconst 1, 1) := by decide +kernel
theorem dX12_parseStatement_145 : decode cX12_parseStatement 145 = .ok (.iadd, 1) := by decide +kernel
theorem dX12_parseStatement_146 : decode cX12_parseStatement 146 = .ok (.aload_n 0, 1) := by decide +kernel
theorem dX12_parseStatement_147 : decode cX12_parseStatement 147 = .ok (.invokevirtual 282, 3) := by decide +kernel
theorem dX12_parseStatement_150 : decode cX12_parseStatement 150 = .ok (.iastore, 1) := by decide +kernel
theorem dX12_parseStatement_151 : decode cX12_parseStatement 151 = .ok (.aload_n 0, 1) := by decide +kernel
theorem dX12_parseStatement_152 : decode cX12_parseStatement 152 = .ok (.getfield 43, 3) := by decide +kernel
theorem dX12_parseStatement_155 : decode cX12_parseStatement 155 = .ok (.iload_n 2, 1) := by decide +kernel
theorem dX12_parseStatement_156 : decode cX12_parseStatement 156 = .ok (.iconst 2, 1) := by decide +kernel
theorem dX12_parseStatement_157 : decode cX12_parseStatement 157 = .ok (.iadd, 1) := by decide +kernel
theorem dX12_parseStatement_158 : decode cX12_parseStatement 158 = .ok (.aload_n 0, 1) := by decide +kernel
theorem dX12_parseStatement_159 : decode cX12_parseStatement 159 = .ok (.iconst 1, 1) := by decide +kernel
theorem dX12_parseStatement_160 : decode cX12_parseStatement 160 = .ok (.invokevirtual 247, 3) := by decide +kernel
theorem dX12_parseStatement_163 : decode cX12_parseStatement 163 = .ok (.iastore, 1) := by decide +kernel
theorem dX12_parseStatement_164 : decode cX12_parseStatement 164 = .ok (.goto 48, 3) := by decide +kernel
theorem dX12_parseStatement_167 : decode cX12_parseStatement 167 = .ok (.aload_n 0, 1) := by decide +kernel
theorem dX12_parseStatement_168 : decode cX12_parseStatement 168 = .ok (.getfield 43, 3) := by decide +kernel
theorem dX12_parseStatement_171 : decode cX12_parseStatement 171 = .ok (.iload_n 2, 1) := by decide +kernel
theorem dX12_parseStatement_172 : decode cX12_parseStatement 172 = .ok (.iconst 1, 1) := by decide +kernel
theorem dX12_parseStatement_173 : decode cX12_parseStatement 173 = .ok (.iadd, 1) := by decide +kernel
theorem dX12_parseStatement_174 : decode cX12_parseStatement 174 = .ok (.aload_n 0, 1) := by decide +kernel
theorem dX12_parseStatement_175 : decode cX12_parseStatement 175 = .ok (.invokevirtual 282, 3) := by decide +kernel
theorem dX12_parseStatement_178 : decode cX12_parseStatement 178 = .ok (.iastore, 1) := by decide +kernel
theorem dX12_parseStatement_179 : decode cX12_parseStatement 179 = .ok (.aload_n 0, 1) := by decide +kernel
theorem dX12_parseStatement_180 : decode cX12_parseStatement 180 = .ok (.getfield 43, 3) := by decide +kernel
theorem dX12_parseStatement_183 : decode cX12_parseStatement 183 = .ok (.iload_n 2, 1) := by decide +kernel
theorem dX12_parseStatement_184 : decode cX12_parseStatement 184 = .ok (.iconst 2, 1) := by decide +kernel
theorem dX12_parseStatement_185 : decode cX12_parseStatement 185 = .ok (.iadd, 1) := by decide +kernel
theorem dX12_parseStatement_186 : decode cX12_parseStatement 186 = .ok (.aload_n 0, 1) := by decide +kernel
theorem dX12_parseStatement_187 : decode cX12_parseStatement 187 = .ok (.iconst 0, 1) := by decide +kernel
theorem dX12_parseStatement_188 : decode cX12_parseStatement 188 = .ok (.bipush 64, 2) := by decide +kernel
theorem dX12_parseStatement_190 : decode cX12_parseStatement 190 = .ok (.invokevirtual 242, 3) := by decide +kernel
theorem dX12_parseStatement_193 : decode cX12_parseStatement 193 = .ok (.iastore, 1) := by decide +kernel
theorem dX12_parseStatement_194 : decode cX12_parseStatement 194 = .ok (.goto 18, 3) := by decide +kernel
theorem dX12_parseStatement_197 : decode cX12_parseStatement 197 = .ok (.aload_n 0, 1) := by decide +kernel
theorem dX12_parseStatement_198 : decode cX12_parseStatement 198 = .ok (.getfield 43, 3) := by decide +kernel
theorem dX12_parseStatement_201 : decode cX12_parseStatement 201 = .ok (.iload_n 2, 1) := by decide +kernel
theorem dX12_parseStatement_202 : decode cX12_parseStatement 202 = .ok (.iconst 1, 1) := by decide +kernel
theorem dX12_parseStatement_203 : decode cX12_parseStatement 203 = .ok (.iadd, 1) := by decide +kernel
theorem dX12_parseStatement_204 : decode cX12_parseStatement 204 = .ok (.aload_n 0, 1) := by decide +kernel
theorem dX12_parseStatement_205 : decode cX12_parseStatement 205 = .ok (.invokevirtual 282, 3) := by decide +kernel
theorem dX12_parseStatement_208 : decode cX12_parseStatement 208 = .ok (.iastore, 1) := by decide +kernel
theorem dX12_parseStatement_209 : decode cX12_parseStatement 209 = .ok (.goto 3, 3) := by decide +kernel
theorem dX12_parseStatement_212 : decode cX12_parseStatement 212 = .ok (.aload_n 0, 1) := by decide +kernel
theorem dX12_parseStatement_213 : decode cX12_parseStatement 213 = .ok (.invokevirtual 250, 3) := by decide +kernel
theorem dX12_parseStatement_216 : decode cX12_parseStatement 216 = .ok (.aload_n 0, 1) := by decide +kernel
theorem dX12_parseStatement_217 : decode cX12_parseStatement 217 = .ok (.dup, 1) := by decide +kernel
theorem dX12_parseStatement_218 : decode cX12_parseStatement 218 = .ok (.getfield 279, 3) := by decide +kernel
theorem dX12_parseStatement_221 : decode cX12_parseStatement 221 = .ok (.iconst 1, 1) := by decide +kernel
theorem dX12_parseStatement_222 : decode cX12_parseStatement 222 = .ok (.iadd, 1) := by decide +kernel
theorem dX12_parseStatement_223 : decode cX12_parseStatement 223 = .ok (.putfield 279, 3) := by decide +kernel
theorem dX12_parseStatement_226 : decode cX12_parseStatement 226 = .ok (.return_, 1) := by decide +kernel
theorem dX12_isLive_0 : decode cX12_isLive 0 = .ok (.aload_n 0, 1) := by decide +kernel
theorem dX12_isLive_1 : decode cX12_isLive 1 = .ok (.iload_n 1, 1) := by decide +kernel
theorem dX12_isLive_2 : decode cX12_isLive 2 = .ok (.invokevirtual 285, 3) := by decide +kernel
theorem dX12_isLive_5 : decode cX12_isLive 5 = .ok (.ifCond .eq 15, 3) := by decide +kernel
theorem dX12_isLive_8 : decode cX12_isLive 8 = .ok (.aload_n 0, 1) := by decide +kernel
theorem dX12_isLive_9 : decode cX12_isLive 9 = .ok (.iload_n 1, 1) := by decide +kernel
theorem dX12_isLive_10 : decode cX12_isLive 10 = .ok (.invokevirtual 164, 3) := by decide +kernel
theorem dX12_isLive_13 : decode cX12_isLive 13 = .ok (.ifCond .ne 7, 3) := by decide +kernel
theorem dX12_isLive_16 : decode cX12_isLive 16 = .ok (.iconst 1, 1) := by decide +kernel
theorem dX12_isLive_17 : decode cX12_isLive 17 = .ok (.goto 4, 3) := by decide +kernel
theorem dX12_isLive_20 : decode cX12_isLive 20 = .ok (.iconst 0, 1) := by decide +kernel
theorem dX12_isLive_21 : decode cX12_isLive 21 = .ok (.ireturn, 1) := by decide +kernel
theorem dX12_hasRoom_0 : decode cX12_hasRoom 0 = .ok (.aload_n 0, 1) := by decide +kernel
theorem dX12_hasRoom_1 : decode cX12_hasRoom 1 = .ok (.getfield 9, 3) := by decide +kernel
theorem dX12_hasRoom_4 : decode cX12_hasRoom 4 = .ok (.iconst 0, 1) := by decide +kernel
theorem dX12_hasRoom_5 : decode cX12_hasRoom 5 = .ok (.iaload, 1) := by decide +kernel
theorem dX12_hasRoom_6 : decode cX12_hasRoom 6 = .ok (.bipush 40, 2) := by decide +kernel
theorem dX12_hasRoom_8 : decode cX12_hasRoom 8 = .ok (.if_icmp .ge 7, 3) := by decide +kernel
theorem dX12_hasRoom_11 : decode cX12_hasRoom 11 = .ok (.iconst 1, 1) := by decide +kernel
theorem dX12_hasRoom_12 : decode cX12_hasRoom 12 = .ok (.goto 4, 3) := by decide +kernel
theorem dX12_hasRoom_15 : decode cX12_hasRoom 15 = .ok (.iconst 0, 1) := by decide +kernel
theorem dX12_hasRoom_16 : decode cX12_hasRoom 16 = .ok (.ireturn, 1) := by decide +kernel
theorem dX12_executeSet_0 : decode cX12_executeSet 0 = .ok (.aload_n 0, 1) := by decide +kernel
theorem dX12_executeSet_1 : decode cX12_executeSet 1 = .ok (.iload_n 1, 1) := by decide +kernel
theorem dX12_executeSet_2 : decode cX12_executeSet 2 = .ok (.invokevirtual 288, 3) := by decide +kernel
theorem dX12_executeSet_5 : decode cX12_executeSet 5 = .ok (.ifCond .eq 19, 3) := by decide +kernel
theorem dX12_executeSet_8 : decode cX12_executeSet 8 = .ok (.iload_n 2, 1) := by decide +kernel
theorem dX12_executeSet_9 : decode cX12_executeSet 9 = .ok (.aload_n 0, 1) := by decide +kernel
theorem dX12_executeSet_10 : decode cX12_executeSet 10 = .ok (.iload_n 1, 1) := by decide +kernel
theorem dX12_executeSet_11 : decode cX12_executeSet 11 = .ok (.invokevirtual 121, 3) := by decide +kernel
theorem dX12_executeSet_14 : decode cX12_executeSet 14 = .ok (.if_icmp .ge 10, 3) := by decide +kernel
theorem dX12_executeSet_17 : decode cX12_executeSet 17 = .ok (.aload_n 0, 1) := by decide +kernel
theorem dX12_executeSet_18 : decode cX12_executeSet 18 = .ok (.invokevirtual 291, 3) := by decide +kernel
theorem dX12_executeSet_21 : decode cX12_executeSet 21 = .ok (.ifCond .ne 5, 3) := by decide +kernel
theorem dX12_executeSet_24 : decode cX12_executeSet 24 = .ok (.iconst 0, 1) := by decide +kernel
theorem dX12_executeSet_25 : decode cX12_executeSet 25 = .ok (.ireturn, 1) := by decide +kernel
theorem dX12_executeSet_26 : decode cX12_executeSet 26 = .ok (.aload_n 0, 1) := by decide +kernel
theorem dX12_executeSet_27 : decode cX12_executeSet 27 = .ok (.iload_n 1, 1) := by decide +kernel
theorem dX12_executeSet_28 : decode cX12_executeSet 28 = .ok (.iload_n 2, 1) := by decide +kernel
theorem dX12_executeSet_29 : decode cX12_executeSet 29 = .ok (.iload_n 3, 1) := by decide +kernel
theorem dX12_executeSet_30 : decode cX12_executeSet 30 = .ok (.invokevirtual 295, 3) := by decide +kernel
theorem dX12_executeSet_33 : decode cX12_executeSet 33 = .ok (.ifCond .le 7, 3) := by decide +kernel
theorem dX12_executeSet_36 : decode cX12_executeSet 36 = .ok (.iconst 1, 1) := by decide +kernel
theorem dX12_executeSet_37 : decode cX12_executeSet 37 = .ok (.goto 4, 3) := by decide +kernel
theorem dX12_executeSet_40 : decode cX12_executeSet 40 = .ok (.iconst 0, 1) := by decide +kernel
theorem dX12_executeSet_41 : decode cX12_executeSet 41 = .ok (.ireturn, 1) := by decide +kernel
theorem dX12_executeAppend_0 : decode cX12_executeAppend 0 = .ok (.aload_n 0, 1) := by decide +kernel
theorem dX12_executeAppend_1 : decode cX12_executeAppend 1 = .ok (.iload_n 1, 1) := by decide +kernel
theorem dX12_executeAppend_2 : decode cX12_executeAppend 2 = .ok (.invokevirtual 288, 3) := by decide +kernel
theorem dX12_executeAppend_5 : decode cX12_executeAppend 5 = .ok (.ifCond .eq 20, 3) := by decide +kernel
theorem dX12_executeAppend_8 : decode cX12_executeAppend 8 = .ok (.aload_n 0, 1) := by decide +kernel
theorem dX12_executeAppend_9 : decode cX12_executeAppend 9 = .ok (.iload_n 1, 1) := by decide +kernel
theorem dX12_executeAppend_10 : decode cX12_executeAppend 10 = .ok (.invokevirtual 121, 3) := by decide +kernel
theorem dX12_executeAppend_13 : decode cX12_executeAppend 13 = .ok (.bipush 64, 2) := by decide +kernel
theorem dX12_executeAppend_15 : decode cX12_executeAppend 15 = .ok (.if_icmp .eq 10, 3) := by decide +kernel
theorem dX12_executeAppend_18 : decode cX12_executeAppend 18 = .ok (.aload_n 0, 1) := by decide +kernel
theorem dX12_executeAppend_19 : decode cX12_executeAppend 19 = .ok (.invokevirtual 291, 3) := by decide +kernel
theorem dX12_executeAppend_22 : decode cX12_executeAppend 22 = .ok (.ifCond .ne 5, 3) := by decide +kernel
theorem dX12_executeAppend_25 : decode cX12_executeAppend 25 = .ok (.iconst 0, 1) := by decide +kernel
theorem dX12_executeAppend_26 : decode cX12_executeAppend 26 = .ok (.ireturn, 1) := by decide +kernel
theorem dX12_executeAppend_27 : decode cX12_executeAppend 27 = .ok (.aload_n 0, 1) := by decide +kernel
theorem dX12_executeAppend_28 : decode cX12_executeAppend 28 = .ok (.iload_n 1, 1) := by decide +kernel
theorem dX12_executeAppend_29 : decode cX12_executeAppend 29 = .ok (.iload_n 2, 1) := by decide +kernel
theorem dX12_executeAppend_30 : decode cX12_executeAppend 30 = .ok (.invokevirtual 298, 3) := by decide +kernel
theorem dX12_executeAppend_33 : decode cX12_executeAppend 33 = .ok (.ifCond .le 7, 3) := by decide +kernel
theorem dX12_executeAppend_36 : decode cX12_executeAppend 36 = .ok (.iconst 1, 1) := by decide +kernel
theorem dX12_executeAppend_37 : decode cX12_executeAppend 37 = .ok (.goto 4, 3) := by decide +kernel
theorem dX12_executeAppend_40 : decode cX12_executeAppend 40 = .ok (.iconst 0, 1) := by decide +kernel
theorem dX12_executeAppend_41 : decode cX12_executeAppend 41 = .ok (.ireturn, 1) := by decide +kernel
theorem dX12_executeTruncate_0 : decode cX12_executeTruncate 0 = .ok (.aload_n 0, 1) := by decide +kernel
theorem dX12_executeTruncate_1 : decode cX12_executeTruncate 1 = .ok (.iload_n 1, 1) := by decide +kernel
theorem dX12_executeTruncate_2 : decode cX12_executeTruncate 2 = .ok (.invokevirtual 288, 3) := by decide +kernel
theorem dX12_executeTruncate_5 : decode cX12_executeTruncate 5 = .ok (.ifCond .eq 19, 3) := by decide +kernel
theorem dX12_executeTruncate_8 : decode cX12_executeTruncate 8 = .ok (.iload_n 2, 1) := by decide +kernel
theorem dX12_executeTruncate_9 : decode cX12_executeTruncate 9 = .ok (.aload_n 0, 1) := by decide +kernel
theorem dX12_executeTruncate_10 : decode cX12_executeTruncate 10 = .ok (.iload_n 1, 1) := by decide +kernel
theorem dX12_executeTruncate_11 : decode cX12_executeTruncate 11 = .ok (.invokevirtual 121, 3) := by decide +kernel
theorem dX12_executeTruncate_14 : decode cX12_executeTruncate 14 = .ok (.if_icmp .gt 10, 3) := by decide +kernel
theorem dX12_executeTruncate_17 : decode cX12_executeTruncate 17 = .ok (.aload_n 0, 1) := by decide +kernel
theorem dX12_executeTruncate_18 : decode cX12_executeTruncate 18 = .ok (.invokevirtual 291, 3) := by decide +kernel
theorem dX12_executeTruncate_21 : decode cX12_executeTruncate 21 = .ok (.ifCond .ne 5, 3) := by decide +kernel
theorem dX12_executeTruncate_24 : decode cX12_executeTruncate 24 = .ok (.iconst 0, 1) := by decide +kernel
theorem dX12_executeTruncate_25 : decode cX12_executeTruncate 25 = .ok (.ireturn, 1) := by decide +kernel
theorem dX12_executeTruncate_26 : decode cX12_executeTruncate 26 = .ok (.aload_n 0, 1) := by decide +kernel
theorem dX12_executeTruncate_27 : decode cX12_executeTruncate 27 = .ok (.iload_n 1, 1) := by decide +kernel
theorem dX12_executeTruncate_28 : decode cX12_executeTruncate 28 = .ok (.iload_n 2, 1) := by decide +kernel
theorem dX12_executeTruncate_29 : decode cX12_executeTruncate 29 = .ok (.invokevirtual 301, 3) := by decide +kernel
theorem dX12_executeTruncate_32 : decode cX12_executeTruncate 32 = .ok (.ifCond .le 7, 3) := by decide +kernel
theorem dX12_executeTruncate_35 : decode cX12_executeTruncate 35 = .ok (.iconst 1, 1) := by decide +kernel
theorem dX12_executeTruncate_36 : decode cX12_executeTruncate 36 = .ok (.goto 4, 3) := by decide +kernel
theorem dX12_executeTruncate_39 : decode cX12_executeTruncate 39 = .ok (.iconst 0, 1) := by decide +kernel
theorem dX12_executeTruncate_40 : decode cX12_executeTruncate 40 = .ok (.ireturn, 1) := by decide +kernel
theorem dX12_execute_0 : decode cX12_execute 0 = .ok (.iconst 4, 1) := by decide +kernel
theorem dX12_execute_1 : decode cX12_execute 1 = .ok (.iload_n 1, 1) := by decide +kernel
theorem dX12_execute_2 : decode cX12_execute 2 = .ok (.imul, 1) := by decide +kernel
theorem dX12_execute_3 : decode cX12_execute 3 = .ok (.istore_n 2, 1) := by decide +kernel
theorem dX12_execute_4 : decode cX12_execute 4 = .ok (.aload_n 0, 1) := by decide +kernel
theorem dX12_execute_5 : decode cX12_execute 5 = .ok (.getfield 43, 3) := by decide +kernel
theorem dX12_execute_8 : decode cX12_execute 8 = .ok (.iload_n 2, 1) := by decide +kernel
theorem dX12_execute_9 : decode cX12_execute 9 = .ok (.iconst 1, 1) := by decide +kernel
theorem dX12_execute_10 : decode cX12_execute 10 = .ok (.iadd, 1) := by decide +kernel
theorem dX12_execute_11 : decode cX12_execute 11 = .ok (.iaload, 1) := by decide +kernel
theorem dX12_execute_12 : decode cX12_execute 12 = .ok (.istore_n 3, 1) := by decide +kernel
theorem dX12_execute_13 : decode cX12_execute 13 = .ok (.aload_n 0, 1) := by decide +kernel
theorem dX12_execute_14 : decode cX12_execute 14 = .ok (.getfield 43, 3) := by decide +kernel
theorem dX12_execute_17 : decode cX12_execute 17 = .ok (.iload_n 2, 1) := by decide +kernel
theorem dX12_execute_18 : decode cX12_execute 18 = .ok (.iconst 2, 1) := by decide +kernel
theorem dX12_execute_19 : decode cX12_execute 19 = .ok (.iadd, 1) := by decide +kernel
theorem dX12_execute_20 : decode cX12_execute 20 = .ok (.iaload, 1) := by decide +kernel
theorem dX12_execute_21 : decode cX12_execute 21 = .ok (.istore 4, 2) := by decide +kernel
theorem dX12_execute_23 : decode cX12_execute 23 = .ok (.aload_n 0, 1) := by decide +kernel
theorem dX12_execute_24 : decode cX12_execute 24 = .ok (.getfield 43, 3) := by decide +kernel
theorem dX12_execute_27 : decode cX12_execute 27 = .ok (.iload_n 2, 1) := by decide +kernel
theorem dX12_execute_28 : decode cX12_execute 28 = .ok (.iaload, 1) := by decide +kernel
theorem dX12_execute_29 : decode cX12_execute 29 = .ok (.tableswitch 85 0 3 #[31, 47, 55, 63], 31) := by decide +kernel
theorem dX12_execute_60 : decode cX12_execute 60 = .ok (.aload_n 0, 1) := by decide +kernel
theorem dX12_execute_61 : decode cX12_execute 61 = .ok (.iload_n 3, 1) := by decide +kernel
theorem dX12_execute_62 : decode cX12_execute 62 = .ok (.iload 4, 2) := by decide +kernel
theorem dX12_execute_64 : decode cX12_execute 64 = .ok (.aload_n 0, 1) := by decide +kernel
theorem dX12_execute_65 : decode cX12_execute 65 = .ok (.getfield 43, 3) := by decide +kernel
theorem dX12_execute_68 : decode cX12_execute 68 = .ok (.iload_n 2, 1) := by decide +kernel
theorem dX12_execute_69 : decode cX12_execute 69 = .ok (.iconst 3, 1) := by decide +kernel
theorem dX12_execute_70 : decode cX12_execute 70 = .ok (.iadd, 1) := by decide +kernel
theorem dX12_execute_71 : decode cX12_execute 71 = .ok (.iaload, 1) := by decide +kernel
theorem dX12_execute_72 : decode cX12_execute 72 = .ok (.invokevirtual 304, 3) := by decide +kernel
theorem dX12_execute_75 : decode cX12_execute 75 = .ok (.ireturn, 1) := by decide +kernel
theorem dX12_execute_76 : decode cX12_execute 76 = .ok (.aload_n 0, 1) := by decide +kernel
theorem dX12_execute_77 : decode cX12_execute 77 = .ok (.iload_n 3, 1) := by decide +kernel
theorem dX12_execute_78 : decode cX12_execute 78 = .ok (.iload 4, 2) := by decide +kernel
theorem dX12_execute_80 : decode cX12_execute 80 = .ok (.invokevirtual 308, 3) := by decide +kernel
theorem dX12_execute_83 : decode cX12_execute 83 = .ok (.ireturn, 1) := by decide +kernel
theorem dX12_execute_84 : decode cX12_execute 84 = .ok (.aload_n 0, 1) := by decide +kernel
theorem dX12_execute_85 : decode cX12_execute 85 = .ok (.iload_n 3, 1) := by decide +kernel
theorem dX12_execute_86 : decode cX12_execute 86 = .ok (.iload 4, 2) := by decide +kernel
theorem dX12_execute_88 : decode cX12_execute 88 = .ok (.invokevirtual 312, 3) := by decide +kernel
theorem dX12_execute_91 : decode cX12_execute 91 = .ok (.ireturn, 1) := by decide +kernel
theorem dX12_execute_92 : decode cX12_execute 92 = .ok (.aload_n 0, 1) := by decide +kernel
theorem dX12_execute_93 : decode cX12_execute 93 = .ok (.iload_n 3, 1) := by decide +kernel
theorem dX12_execute_94 : decode cX12_execute 94 = .ok (.invokevirtual 288, 3) := by decide +kernel
theorem dX12_execute_97 : decode cX12_execute 97 = .ok (.ifCond .eq 15, 3) := by decide +kernel
theorem dX12_execute_100 : decode cX12_execute 100 = .ok (.aload_n 0, 1) := by decide +kernel
theorem dX12_execute_101 : decode cX12_execute 101 = .ok (.iload_n 3, 1) := by decide +kernel
theorem dX12_execute_102 : decode cX12_execute 102 = .ok (.invokevirtual 315, 3) := by decide +kernel
theorem dX12_execute_105 : decode cX12_execute 105 = .ok (.ifCond .lt 7, 3) := by decide +kernel
theorem dX12_execute_108 : decode cX12_execute 108 = .ok (.iconst 1, 1) := by decide +kernel
theorem dX12_execute_109 : decode cX12_execute 109 = .ok (.goto 4, 3) := by decide +kernel
theorem dX12_execute_112 : decode cX12_execute 112 = .ok (.iconst 0, 1) := by decide +kernel
theorem dX12_execute_113 : decode cX12_execute 113 = .ok (.ireturn, 1) := by decide +kernel
theorem dX12_execute_114 : decode cX12_execute 114 = .ok (.aload_n 0, 1) := by decide +kernel
theorem dX12_execute_115 : decode cX12_execute 115 = .ok (.invokevirtual 318, 3) := by decide +kernel
theorem dX12_execute_118 : decode cX12_execute 118 = .ok (.ifCond .lt 7, 3) := by decide +kernel
theorem dX12_execute_121 : decode cX12_execute 121 = .ok (.iconst 1, 1) := by decide +kernel
theorem dX12_execute_122 : decode cX12_execute 122 = .ok (.goto 4, 3) := by decide +kernel
theorem dX12_execute_125 : decode cX12_execute 125 = .ok (.iconst 0, 1) := by decide +kernel
theorem dX12_execute_126 : decode cX12_execute 126 = .ok (.ireturn, 1) := by decide +kernel
theorem dX12_runScript_0 : decode cX12_runScript 0 = .ok (.aload_n 0, 1) := by decide +kernel
theorem dX12_runScript_1 : decode cX12_runScript 1 = .ok (.iconst 0, 1) := by decide +kernel
theorem dX12_runScript_2 : decode cX12_runScript 2 = .ok (.putfield 58, 3) := by decide +kernel
theorem dX12_runScript_5 : decode cX12_runScript 5 = .ok (.aload_n 0, 1) := by decide +kernel
theorem dX12_runScript_6 : decode cX12_runScript 6 = .ok (.iconst 0, 1) := by decide +kernel
theorem dX12_runScript_7 : decode cX12_runScript 7 = .ok (.putfield 279, 3) := by decide +kernel
theorem dX12_runScript_10 : decode cX12_runScript 10 = .ok (.aload_n 0, 1) := by decide +kernel
theorem dX12_runScript_11 : decode cX12_runScript 11 = .ok (.invokevirtual 253, 3) := by decide +kernel
theorem dX12_runScript_14 : decode cX12_runScript 14 = .ok (.aload_n 0, 1) := by decide +kernel
theorem dX12_runScript_15 : decode cX12_runScript 15 = .ok (.getfield 197, 3) := by decide +kernel
theorem dX12_runScript_18 : decode cX12_runScript 18 = .ok (.ifCond .ne 17, 3) := by decide +kernel
theorem dX12_runScript_21 : decode cX12_runScript 21 = .ok (.aload_n 0, 1) := by decide +kernel
theorem dX12_runScript_22 : decode cX12_runScript 22 = .ok (.getfield 206, 3) := by decide +kernel
theorem dX12_runScript_25 : decode cX12_runScript 25 = .ok (.ifCond .eq 10, 3) := by decide +kernel
theorem dX12_runScript_28 : decode cX12_runScript 28 = .ok (.aload_n 0, 1) := by decide +kernel
theorem dX12_runScript_29 : decode cX12_runScript 29 = .ok (.invokevirtual 321, 3) := by decide +kernel
theorem dX12_runScript_32 : decode cX12_runScript 32 = .ok (.goto (-18), 3) := by decide +kernel
theorem dX12_runScript_35 : decode cX12_runScript 35 = .ok (.aload_n 0, 1) := by decide +kernel
theorem dX12_runScript_36 : decode cX12_runScript 36 = .ok (.invokevirtual 259, 3) := by decide +kernel
theorem dX12_runScript_39 : decode cX12_runScript 39 = .ok (.aload_n 0, 1) := by decide +kernel
theorem dX12_runScript_40 : decode cX12_runScript 40 = .ok (.getfield 197, 3) := by decide +kernel
theorem dX12_runScript_43 : decode cX12_runScript 43 = .ok (.ifCond .le 5, 3) := by decide +kernel
theorem dX12_runScript_46 : decode cX12_runScript 46 = .ok (.iconst (-1), 1) := by decide +kernel
theorem dX12_runScript_47 : decode cX12_runScript 47 = .ok (.ireturn, 1) := by decide +kernel
theorem dX12_runScript_48 : decode cX12_runScript 48 = .ok (.aload_n 0, 1) := by decide +kernel
theorem dX12_runScript_49 : decode cX12_runScript 49 = .ok (.invokevirtual 324, 3) := by decide +kernel
theorem dX12_runScript_52 : decode cX12_runScript 52 = .ok (.iconst 0, 1) := by decide +kernel
theorem dX12_runScript_53 : decode cX12_runScript 53 = .ok (.istore_n 1, 1) := by decide +kernel
theorem dX12_runScript_54 : decode cX12_runScript 54 = .ok (.iload_n 1, 1) := by decide +kernel
theorem dX12_runScript_55 : decode cX12_runScript 55 = .ok (.aload_n 0, 1) := by decide +kernel
theorem dX12_runScript_56 : decode cX12_runScript 56 = .ok (.getfield 279, 3) := by decide +kernel
theorem dX12_runScript_59 : decode cX12_runScript 59 = .ok (.if_icmp .ge 17, 3) := by decide +kernel
theorem dX12_runScript_62 : decode cX12_runScript 62 = .ok (.aload_n 0, 1) := by decide +kernel
theorem dX12_runScript_63 : decode cX12_runScript 63 = .ok (.iload_n 1, 1) := by decide +kernel
theorem dX12_runScript_64 : decode cX12_runScript 64 = .ok (.invokevirtual 327, 3) := by decide +kernel
theorem dX12_runScript_67 : decode cX12_runScript 67 = .ok (.ifCond .eq 9, 3) := by decide +kernel
theorem dX12_runScript_70 : decode cX12_runScript 70 = .ok (.iinc 1 1, 3) := by decide +kernel
theorem dX12_runScript_73 : decode cX12_runScript 73 = .ok (.goto (-19), 3) := by decide +kernel
theorem dX12_runScript_76 : decode cX12_runScript 76 = .ok (.iload_n 1, 1) := by decide +kernel
theorem dX12_runScript_77 : decode cX12_runScript 77 = .ok (.ireturn, 1) := by decide +kernel
theorem dX12_isVersion_0 : decode cX12_isVersion 0 = .ok (.iload_n 1, 1) := by decide +kernel
theorem dX12_isVersion_1 : decode cX12_isVersion 1 = .ok (.i2l, 1) := by decide +kernel
theorem dX12_isVersion_2 : decode cX12_isVersion 2 = .ok (.lconst 0, 1) := by decide +kernel
theorem dX12_isVersion_3 : decode cX12_isVersion 3 = .ok (.aload_n 0, 1) := by decide +kernel
theorem dX12_isVersion_4 : decode cX12_isVersion 4 = .ok (.getfield 9, 3) := by decide +kernel
theorem dX12_isVersion_7 : decode cX12_isVersion 7 = .ok (.iconst 0, 1) := by decide +kernel
theorem dX12_isVersion_8 : decode cX12_isVersion 8 = .ok (.iaload, 1) := by decide +kernel
theorem dX12_isVersion_9 : decode cX12_isVersion 9 = .ok (.iconst 1, 1) := by decide +kernel
theorem dX12_isVersion_10 : decode cX12_isVersion 10 = .ok (.isub, 1) := by decide +kernel
theorem dX12_isVersion_11 : decode cX12_isVersion 11 = .ok (.i2l, 1) := by decide +kernel
theorem dX12_isVersion_12 : decode cX12_isVersion 12 = .ok (.invokestatic 167, 3) := by decide +kernel
theorem dX12_isVersion_15 : decode cX12_isVersion 15 = .ok (.ireturn, 1) := by decide +kernel
theorem dX12_checkVersion_0 : decode cX12_checkVersion 0 = .ok (.aload_n 0, 1) := by decide +kernel
theorem dX12_checkVersion_1 : decode cX12_checkVersion 1 = .ok (.aload_n 0, 1) := by decide +kernel
theorem dX12_checkVersion_2 : decode cX12_checkVersion 2 = .ok (.iload_n 1, 1) := by decide +kernel
theorem dX12_checkVersion_3 : decode cX12_checkVersion 3 = .ok (.invokevirtual 285, 3) := by decide +kernel
theorem dX12_checkVersion_6 : decode cX12_checkVersion 6 = .ok (.iconst 1, 1) := by decide +kernel
theorem dX12_checkVersion_7 : decode cX12_checkVersion 7 = .ok (.iconst 1, 1) := by decide +kernel
theorem dX12_checkVersion_8 : decode cX12_checkVersion 8 = .ok (.invokevirtual 330, 3) := by decide +kernel
theorem dX12_checkVersion_11 : decode cX12_checkVersion 11 = .ok (.ireturn, 1) := by decide +kernel
theorem dX12_versionCount_0 : decode cX12_versionCount 0 = .ok (.aload_n 0, 1) := by decide +kernel
theorem dX12_versionCount_1 : decode cX12_versionCount 1 = .ok (.iconst 0, 1) := by decide +kernel
theorem dX12_versionCount_2 : decode cX12_versionCount 2 = .ok (.putfield 58, 3) := by decide +kernel
theorem dX12_versionCount_5 : decode cX12_versionCount 5 = .ok (.aload_n 0, 1) := by decide +kernel
theorem dX12_versionCount_6 : decode cX12_versionCount 6 = .ok (.getfield 9, 3) := by decide +kernel
theorem dX12_versionCount_9 : decode cX12_versionCount 9 = .ok (.iconst 0, 1) := by decide +kernel
theorem dX12_versionCount_10 : decode cX12_versionCount 10 = .ok (.iaload, 1) := by decide +kernel
theorem dX12_versionCount_11 : decode cX12_versionCount 11 = .ok (.ireturn, 1) := by decide +kernel
theorem dX12_liveCount_0 : decode cX12_liveCount 0 = .ok (.aload_n 0, 1) := by decide +kernel
theorem dX12_liveCount_1 : decode cX12_liveCount 1 = .ok (.iconst 0, 1) := by decide +kernel
theorem dX12_liveCount_2 : decode cX12_liveCount 2 = .ok (.putfield 58, 3) := by decide +kernel
theorem dX12_liveCount_5 : decode cX12_liveCount 5 = .ok (.iconst 0, 1) := by decide +kernel
theorem dX12_liveCount_6 : decode cX12_liveCount 6 = .ok (.istore_n 1, 1) := by decide +kernel
theorem dX12_liveCount_7 : decode cX12_liveCount 7 = .ok (.iconst 0, 1) := by decide +kernel
theorem dX12_liveCount_8 : decode cX12_liveCount 8 = .ok (.istore_n 2, 1) := by decide +kernel
theorem dX12_liveCount_9 : decode cX12_liveCount 9 = .ok (.iload_n 2, 1) := by decide +kernel
theorem dX12_liveCount_10 : decode cX12_liveCount 10 = .ok (.aload_n 0, 1) := by decide +kernel
theorem dX12_liveCount_11 : decode cX12_liveCount 11 = .ok (.getfield 9, 3) := by decide +kernel
theorem dX12_liveCount_14 : decode cX12_liveCount 14 = .ok (.iconst 0, 1) := by decide +kernel
theorem dX12_liveCount_15 : decode cX12_liveCount 15 = .ok (.iaload, 1) := by decide +kernel
theorem dX12_liveCount_16 : decode cX12_liveCount 16 = .ok (.if_icmp .ge 28, 3) := by decide +kernel
theorem dX12_liveCount_19 : decode cX12_liveCount 19 = .ok (.iload_n 1, 1) := by decide +kernel
theorem dX12_liveCount_20 : decode cX12_liveCount 20 = .ok (.aload_n 0, 1) := by decide +kernel
theorem dX12_liveCount_21 : decode cX12_liveCount 21 = .ok (.iload_n 2, 1) := by decide +kernel
theorem dX12_liveCount_22 : decode cX12_liveCount 22 = .ok (.invokevirtual 164, 3) := by decide +kernel
theorem dX12_liveCount_25 : decode cX12_liveCount 25 = .ok (.ifCond .ne 7, 3) := by decide +kernel
theorem dX12_liveCount_28 : decode cX12_liveCount 28 = .ok (.iconst 1, 1) := by decide +kernel
theorem dX12_liveCount_29 : decode cX12_liveCount 29 = .ok (.goto 4, 3) := by decide +kernel
theorem dX12_liveCount_32 : decode cX12_liveCount 32 = .ok (.iconst 0, 1) := by decide +kernel
theorem dX12_liveCount_33 : decode cX12_liveCount 33 = .ok (.invokestatic 75, 3) := by decide +kernel
theorem dX12_liveCount_36 : decode cX12_liveCount 36 = .ok (.iadd, 1) := by decide +kernel
theorem dX12_liveCount_37 : decode cX12_liveCount 37 = .ok (.istore_n 1, 1) := by decide +kernel
theorem dX12_liveCount_38 : decode cX12_liveCount 38 = .ok (.iinc 2 1, 3) := by decide +kernel
theorem dX12_liveCount_41 : decode cX12_liveCount 41 = .ok (.goto (-32), 3) := by decide +kernel
theorem dX12_liveCount_44 : decode cX12_liveCount 44 = .ok (.iload_n 1, 1) := by decide +kernel
theorem dX12_liveCount_45 : decode cX12_liveCount 45 = .ok (.ireturn, 1) := by decide +kernel
theorem dX12_isReleased_0 : decode cX12_isReleased 0 = .ok (.aload_n 0, 1) := by decide +kernel
theorem dX12_isReleased_1 : decode cX12_isReleased 1 = .ok (.iload_n 1, 1) := by decide +kernel
theorem dX12_isReleased_2 : decode cX12_isReleased 2 = .ok (.invokevirtual 334, 3) := by decide +kernel
theorem dX12_isReleased_5 : decode cX12_isReleased 5 = .ok (.ifCond .eq 15, 3) := by decide +kernel
theorem dX12_isReleased_8 : decode cX12_isReleased 8 = .ok (.aload_n 0, 1) := by decide +kernel
theorem dX12_isReleased_9 : decode cX12_isReleased 9 = .ok (.iload_n 1, 1) := by decide +kernel
theorem dX12_isReleased_10 : decode cX12_isReleased 10 = .ok (.invokevirtual 164, 3) := by decide +kernel
theorem dX12_isReleased_13 : decode cX12_isReleased 13 = .ok (.ifCond .eq 7, 3) := by decide +kernel
theorem dX12_isReleased_16 : decode cX12_isReleased 16 = .ok (.iconst 1, 1) := by decide +kernel
theorem dX12_isReleased_17 : decode cX12_isReleased 17 = .ok (.goto 4, 3) := by decide +kernel
theorem dX12_isReleased_20 : decode cX12_isReleased 20 = .ok (.iconst 0, 1) := by decide +kernel
theorem dX12_isReleased_21 : decode cX12_isReleased 21 = .ok (.ireturn, 1) := by decide +kernel
theorem dX12_parentOf_0 : decode cX12_parentOf 0 = .ok (.aload_n 0, 1) := by decide +kernel
theorem dX12_parentOf_1 : decode cX12_parentOf 1 = .ok (.iload_n 1, 1) := by decide +kernel
theorem dX12_parentOf_2 : decode cX12_parentOf 2 = .ok (.invokevirtual 334, 3) := by decide +kernel
theorem dX12_parentOf_5 : decode cX12_parentOf 5 = .ok (.ifCond .eq 17, 3) := by decide +kernel
theorem dX12_parentOf_8 : decode cX12_parentOf 8 = .ok (.aload_n 0, 1) := by decide +kernel
theorem dX12_parentOf_9 : decode cX12_parentOf 9 = .ok (.getfield 9, 3) := by decide +kernel
theorem dX12_parentOf_12 : decode cX12_parentOf 12 = .ok (.iload_n 1, 1) := by decide +kernel
theorem dX12_parentOf_13 : decode cX12_parentOf 13 = .ok (.invokestatic 112, 3) := by decide +kernel
theorem dX12_parentOf_16 : decode cX12_parentOf 16 = .ok (.iconst 3, 1) := by decide +kernel
theorem dX12_parentOf_17 : decode cX12_parentOf 17 = .ok (.iadd, 1) := by decide +kernel
theorem dX12_parentOf_18 : decode cX12_parentOf 18 = .ok (.iaload, 1) := by decide +kernel
theorem dX12_parentOf_19 : decode cX12_parentOf 19 = .ok (.goto 4, 3) := by decide +kernel
theorem dX12_parentOf_22 : decode cX12_parentOf 22 = .ok (.iconst 0, 1) := by decide +kernel
theorem dX12_parentOf_23 : decode cX12_parentOf 23 = .ok (.ireturn, 1) := by decide +kernel
theorem dX12_depth_0 : decode cX12_depth 0 = .ok (.iconst 0, 1) := by decide +kernel
theorem dX12_depth_1 : decode cX12_depth 1 = .ok (.istore_n 2, 1) := by decide +kernel
theorem dX12_depth_2 : decode cX12_depth 2 = .ok (.aload_n 0, 1) := by decide +kernel
theorem dX12_depth_3 : decode cX12_depth 3 = .ok (.getfield 9, 3) := by decide +kernel
theorem dX12_depth_6 : decode cX12_depth 6 = .ok (.iload_n 1, 1) := by decide +kernel
theorem dX12_depth_7 : decode cX12_depth 7 = .ok (.invokestatic 112, 3) := by decide +kernel
theorem dX12_depth_10 : decode cX12_depth 10 = .ok (.iconst 3, 1) := by decide +kernel
theorem dX12_depth_11 : decode cX12_depth 11 = .ok (.iadd, 1) := by decide +kernel
theorem dX12_depth_12 : decode cX12_depth 12 = .ok (.iaload, 1) := by decide +kernel
theorem dX12_depth_13 : decode cX12_depth 13 = .ok (.istore_n 3, 1) := by decide +kernel
theorem dX12_depth_14 : decode cX12_depth 14 = .ok (.iload_n 3, 1) := by decide +kernel
theorem dX12_depth_15 : decode cX12_depth 15 = .ok (.iconst (-1), 1) := by decide +kernel
theorem dX12_depth_16 : decode cX12_depth 16 = .ok (.if_icmp .eq 21, 3) := by decide +kernel
theorem dX12_depth_19 : decode cX12_depth 19 = .ok (.iinc 2 1, 3) := by decide +kernel
theorem dX12_depth_22 : decode cX12_depth 22 = .ok (.aload_n 0, 1) := by decide +kernel
theorem dX12_depth_23 : decode cX12_depth 23 = .ok (.getfield 9, 3) := by decide +kernel
theorem dX12_depth_26 : decode cX12_depth 26 = .ok (.iload_n 3, 1) := by decide +kernel
theorem dX12_depth_27 : decode cX12_depth 27 = .ok (.invokestatic 112, 3) := by decide +kernel
theorem dX12_depth_30 : decode cX12_depth 30 = .ok (.iconst 3, 1) := by decide +kernel
theorem dX12_depth_31 : decode cX12_depth 31 = .ok (.iadd, 1) := by decide +kernel
theorem dX12_depth_32 : decode cX12_depth 32 = .ok (.iaload, 1) := by decide +kernel
theorem dX12_depth_33 : decode cX12_depth 33 = .ok (.istore_n 3, 1) := by decide +kernel
theorem dX12_depth_34 : decode cX12_depth 34 = .ok (.goto (-20), 3) := by decide +kernel
theorem dX12_depth_37 : decode cX12_depth 37 = .ok (.iload_n 2, 1) := by decide +kernel
theorem dX12_depth_38 : decode cX12_depth 38 = .ok (.ireturn, 1) := by decide +kernel
theorem dX12_depthOf_0 : decode cX12_depthOf 0 = .ok (.aload_n 0, 1) := by decide +kernel
theorem dX12_depthOf_1 : decode cX12_depthOf 1 = .ok (.iload_n 1, 1) := by decide +kernel
theorem dX12_depthOf_2 : decode cX12_depthOf 2 = .ok (.invokevirtual 334, 3) := by decide +kernel
theorem dX12_depthOf_5 : decode cX12_depthOf 5 = .ok (.ifCond .eq 11, 3) := by decide +kernel
theorem dX12_depthOf_8 : decode cX12_depthOf 8 = .ok (.aload_n 0, 1) := by decide +kernel
theorem dX12_depthOf_9 : decode cX12_depthOf 9 = .ok (.iload_n 1, 1) := by decide +kernel
theorem dX12_depthOf_10 : decode cX12_depthOf 10 = .ok (.invokevirtual 337, 3) := by decide +kernel
theorem dX12_depthOf_13 : decode cX12_depthOf 13 = .ok (.goto 4, 3) := by decide +kernel
theorem dX12_depthOf_16 : decode cX12_depthOf 16 = .ok (.iconst 0, 1) := by decide +kernel
theorem dX12_depthOf_17 : decode cX12_depthOf 17 = .ok (.ireturn, 1) := by decide +kernel
theorem dX12_childCount_0 : decode cX12_childCount 0 = .ok (.aload_n 0, 1) := by decide +kernel
theorem dX12_childCount_1 : decode cX12_childCount 1 = .ok (.iload_n 1, 1) := by decide +kernel
theorem dX12_childCount_2 : decode cX12_childCount 2 = .ok (.invokevirtual 334, 3) := by decide +kernel
theorem dX12_childCount_5 : decode cX12_childCount 5 = .ok (.ifCond .ne 5, 3) := by decide +kernel
theorem dX12_childCount_8 : decode cX12_childCount 8 = .ok (.iconst 0, 1) := by decide +kernel
theorem dX12_childCount_9 : decode cX12_childCount 9 = .ok (.ireturn, 1) := by decide +kernel
theorem dX12_childCount_10 : decode cX12_childCount 10 = .ok (.iconst 0, 1) := by decide +kernel
theorem dX12_childCount_11 : decode cX12_childCount 11 = .ok (.istore_n 2, 1) := by decide +kernel
theorem dX12_childCount_12 : decode cX12_childCount 12 = .ok (.iconst 0, 1) := by decide +kernel
theorem dX12_childCount_13 : decode cX12_childCount 13 = .ok (.istore_n 3, 1) := by decide +kernel
theorem dX12_childCount_14 : decode cX12_childCount 14 = .ok (.iload_n 3, 1) := by decide +kernel
theorem dX12_childCount_15 : decode cX12_childCount 15 = .ok (.aload_n 0, 1) := by decide +kernel
theorem dX12_childCount_16 : decode cX12_childCount 16 = .ok (.getfield 9, 3) := by decide +kernel
theorem dX12_childCount_19 : decode cX12_childCount 19 = .ok (.iconst 0, 1) := by decide +kernel
theorem dX12_childCount_20 : decode cX12_childCount 20 = .ok (.iaload, 1) := by decide +kernel
theorem dX12_childCount_21 : decode cX12_childCount 21 = .ok (.if_icmp .ge 35, 3) := by decide +kernel
theorem dX12_childCount_24 : decode cX12_childCount 24 = .ok (.iload_n 2, 1) := by decide +kernel
theorem dX12_childCount_25 : decode cX12_childCount 25 = .ok (.aload_n 0, 1) := by decide +kernel
theorem dX12_childCount_26 : decode cX12_childCount 26 = .ok (.getfield 9, 3) := by decide +kernel
theorem dX12_childCount_29 : decode cX12_childCount 29 = .ok (.iload_n 3, 1) := by decide +kernel
theorem dX12_childCount_30 : decode cX12_childCount 30 = .ok (.invokestatic 112, 3) := by decide +kernel
theorem dX12_childCount_33 : decode cX12_childCount 33 = .ok (.iconst 3, 1) := by decide +kernel
theorem dX12_childCount_34 : decode cX12_childCount 34 = .ok (.iadd, 1) := by decide +kernel
theorem dX12_childCount_35 : decode cX12_childCount 35 = .ok (.iaload, 1) := by decide +kernel
theorem dX12_childCount_36 : decode cX12_childCount 36 = .ok (.iload_n 1, 1) := by decide +kernel
theorem dX12_childCount_37 : decode cX12_childCount 37 = .ok (.if_icmp .ne 7, 3) := by decide +kernel
theorem dX12_childCount_40 : decode cX12_childCount 40 = .ok (.iconst 1, 1) := by decide +kernel
theorem dX12_childCount_41 : decode cX12_childCount 41 = .ok (.goto 4, 3) := by decide +kernel
theorem dX12_childCount_44 : decode cX12_childCount 44 = .ok (.iconst 0, 1) := by decide +kernel
theorem dX12_childCount_45 : decode cX12_childCount 45 = .ok (.invokestatic 75, 3) := by decide +kernel
theorem dX12_childCount_48 : decode cX12_childCount 48 = .ok (.iadd, 1) := by decide +kernel
theorem dX12_childCount_49 : decode cX12_childCount 49 = .ok (.istore_n 2, 1) := by decide +kernel
theorem dX12_childCount_50 : decode cX12_childCount 50 = .ok (.iinc 3 1, 3) := by decide +kernel
theorem dX12_childCount_53 : decode cX12_childCount 53 = .ok (.goto (-39), 3) := by decide +kernel
theorem dX12_childCount_56 : decode cX12_childCount 56 = .ok (.iload_n 2, 1) := by decide +kernel
theorem dX12_childCount_57 : decode cX12_childCount 57 = .ok (.ireturn, 1) := by decide +kernel
theorem dX12_commonAncestor_0 : decode cX12_commonAncestor 0 = .ok (.aload_n 0, 1) := by decide +kernel
theorem dX12_commonAncestor_1 : decode cX12_commonAncestor 1 = .ok (.aload_n 0, 1) := by decide +kernel
theorem dX12_commonAncestor_2 : decode cX12_commonAncestor 2 = .ok (.iload_n 1, 1) := by decide +kernel
theorem dX12_commonAncestor_3 : decode cX12_commonAncestor 3 = .ok (.invokevirtual 285, 3) := by decide +kernel
theorem dX12_commonAncestor_6 : decode cX12_commonAncestor 6 = .ok (.ifCond .eq 15, 3) := by decide +kernel
theorem dX12_commonAncestor_9 : decode cX12_commonAncestor 9 = .ok (.aload_n 0, 1) := by decide +kernel
theorem dX12_commonAncestor_10 : decode cX12_commonAncestor 10 = .ok (.iload_n 2, 1) := by decide +kernel
theorem dX12_commonAncestor_11 : decode cX12_commonAncestor 11 = .ok (.invokevirtual 285, 3) := by decide +kernel
theorem dX12_commonAncestor_14 : decode cX12_commonAncestor 14 = .ok (.ifCond .eq 7, 3) := by decide +kernel
theorem dX12_commonAncestor_17 : decode cX12_commonAncestor 17 = .ok (.iconst 1, 1) := by decide +kernel
theorem dX12_commonAncestor_18 : decode cX12_commonAncestor 18 = .ok (.goto 4, 3) := by decide +kernel
theorem dX12_commonAncestor_21 : decode cX12_commonAncestor 21 = .ok (.iconst 0, 1) := by decide +kernel
theorem dX12_commonAncestor_22 : decode cX12_commonAncestor 22 = .ok (.iconst 1, 1) := by decide +kernel
theorem dX12_commonAncestor_23 : decode cX12_commonAncestor 23 = .ok (.iconst 1, 1) := by decide +kernel
theorem dX12_commonAncestor_24 : decode cX12_commonAncestor 24 = .ok (.invokevirtual 330, 3) := by decide +kernel
theorem dX12_commonAncestor_27 : decode cX12_commonAncestor 27 = .ok (.ifCond .ne 5, 3) := by decide +kernel
theorem dX12_commonAncestor_30 : decode cX12_commonAncestor 30 = .ok (.iconst 0, 1) := by decide +kernel
theorem dX12_commonAncestor_31 : decode cX12_commonAncestor 31 = .ok (.ireturn, 1) := by decide +kernel
theorem dX12_commonAncestor_32 : decode cX12_commonAncestor 32 = .ok (.iload_n 1, 1) := by decide +kernel
theorem dX12_commonAncestor_33 : decode cX12_commonAncestor 33 = .ok (.istore_n 3, 1) := by decide +kernel
theorem dX12_commonAncestor_34 : decode cX12_commonAncestor 34 = .ok (.iload_n 2, 1) := by decide +kernel
theorem dX12_commonAncestor_35 : decode cX12_commonAncestor 35 = .ok (.istore 4, 2) := by decide +kernel
theorem dX12_commonAncestor_37 : decode cX12_commonAncestor 37 = .ok (.iload_n 3, 1) := by decide +kernel
theorem dX12_commonAncestor_38 : decode cX12_commonAncestor 38 = .ok (.iload 4, 2) := by decide +kernel
theorem dX12_commonAncestor_40 : decode cX12_commonAncestor 40 = .ok (.if_icmp .eq 49, 3) := by decide +kernel
theorem dX12_commonAncestor_43 : decode cX12_commonAncestor 43 = .ok (.aload_n 0, 1) := by decide +kernel
theorem dX12_commonAncestor_44 : decode cX12_commonAncestor 44 = .ok (.iload_n 3, 1) := by decide +kernel
theorem dX12_commonAncestor_45 : decode cX12_commonAncestor 45 = .ok (.invokevirtual 337, 3) := by decide +kernel
theorem dX12_commonAncestor_48 : decode cX12_commonAncestor 48 = .ok (.aload_n 0, 1) := by decide +kernel
theorem dX12_commonAncestor_49 : decode cX12_commonAncestor 49 = .ok (.iload 4, 2) := by decide +kernel
theorem dX12_commonAncestor_51 : decode cX12_commonAncestor 51 = .ok (.invokevirtual 337, 3) := by decide +kernel
theorem dX12_commonAncestor_54 : decode cX12_commonAncestor 54 = .ok (.if_icmp .lt 18, 3) := by decide +kernel
theorem dX12_commonAncestor_57 : decode cX12_commonAncestor 57 = .ok (.aload_n 0, 1) := by decide +kernel
theorem dX12_commonAncestor_58 : decode cX12_commonAncestor 58 = .ok (.getfield 9, 3) := by decide +kernel
theorem dX12_commonAncestor_61 : decode cX12_commonAncestor 61 = .ok (.iload_n 3, 1) := by decide +kernel
theorem dX12_commonAncestor_62 : decode cX12_commonAncestor 62 = .ok (.invokestatic 112, 3) := by decide +kernel
theorem dX12_commonAncestor_65 : decode cX12_commonAncestor 65 = .ok (.iconst 3, 1) := by decide +kernel
theorem dX12_commonAncestor_66 : decode cX12_commonAncestor 66 = .ok (.iadd, 1) := by decide +kernel
theorem dX12_commonAncestor_67 : decode cX12_commonAncestor 67 = .ok (.iaload, 1) := by decide +kernel
theorem dX12_commonAncestor_68 : decode cX12_commonAncestor 68 = .ok (.istore_n 3, 1) := by decide +kernel
theorem dX12_commonAncestor_69 : decode cX12_commonAncestor 69 = .ok (.goto (-32), 3) := by decide +kernel
theorem dX12_commonAncestor_72 : decode cX12_commonAncestor 72 = .ok (.aload_n 0, 1) := by decide +kernel
theorem dX12_commonAncestor_73 : decode cX12_commonAncestor 73 = .ok (.getfield 9, 3) := by decide +kernel
theorem dX12_commonAncestor_76 : decode cX12_commonAncestor 76 = .ok (.iload 4, 2) := by decide +kernel
theorem dX12_commonAncestor_78 : decode cX12_commonAncestor 78 = .ok (.invokestatic 112, 3) := by decide +kernel
theorem dX12_commonAncestor_81 : decode cX12_commonAncestor 81 = .ok (.iconst 3, 1) := by decide +kernel
theorem dX12_commonAncestor_82 : decode cX12_commonAncestor 82 = .ok (.iadd, 1) := by decide +kernel
theorem dX12_commonAncestor_83 : decode cX12_commonAncestor 83 = .ok (.iaload, 1) := by decide +kernel
theorem dX12_commonAncestor_84 : decode cX12_commonAncestor 84 = .ok (.istore 4, 2) := by decide +kernel
theorem dX12_commonAncestor_86 : decode cX12_commonAncestor 86 = .ok (.goto (-49), 3) := by decide +kernel
theorem dX12_commonAncestor_89 : decode cX12_commonAncestor 89 = .ok (.iload_n 3, 1) := by decide +kernel
theorem dX12_commonAncestor_90 : decode cX12_commonAncestor 90 = .ok (.ireturn, 1) := by decide +kernel
theorem dX12_checkLive_0 : decode cX12_checkLive 0 = .ok (.aload_n 0, 1) := by decide +kernel
theorem dX12_checkLive_1 : decode cX12_checkLive 1 = .ok (.iload_n 1, 1) := by decide +kernel
theorem dX12_checkLive_2 : decode cX12_checkLive 2 = .ok (.invokevirtual 285, 3) := by decide +kernel
theorem dX12_checkLive_5 : decode cX12_checkLive 5 = .ok (.istore_n 2, 1) := by decide +kernel
theorem dX12_checkLive_6 : decode cX12_checkLive 6 = .ok (.aload_n 0, 1) := by decide +kernel
theorem dX12_checkLive_7 : decode cX12_checkLive 7 = .ok (.iload_n 2, 1) := by decide +kernel
theorem dX12_checkLive_8 : decode cX12_checkLive 8 = .ok (.iload_n 2, 1) := by decide +kernel
theorem dX12_checkLive_9 : decode cX12_checkLive 9 = .ok (.ifCond .eq 15, 3) := by decide +kernel
theorem dX12_checkLive_12 : decode cX12_checkLive 12 = .ok (.aload_n 0, 1) := by decide +kernel
theorem dX12_checkLive_13 : decode cX12_checkLive 13 = .ok (.iload_n 1, 1) := by decide +kernel
theorem dX12_checkLive_14 : decode cX12_checkLive 14 = .ok (.invokevirtual 164, 3) := by decide +kernel
theorem dX12_checkLive_17 : decode cX12_checkLive 17 = .ok (.ifCond .ne 7, 3) := by decide +kernel
theorem dX12_checkLive_20 : decode cX12_checkLive 20 = .ok (.iconst 1, 1) := by decide +kernel
theorem dX12_checkLive_21 : decode cX12_checkLive 21 = .ok (.goto 4, 3) := by decide +kernel
theorem dX12_checkLive_24 : decode cX12_checkLive 24 = .ok (.iconst 0, 1) := by decide +kernel
theorem dX12_checkLive_25 : decode cX12_checkLive 25 = .ok (.iconst 1, 1) := by decide +kernel
theorem dX12_checkLive_26 : decode cX12_checkLive 26 = .ok (.invokevirtual 330, 3) := by decide +kernel
theorem dX12_checkLive_29 : decode cX12_checkLive 29 = .ok (.ireturn, 1) := by decide +kernel
theorem dX12_hasElement_0 : decode cX12_hasElement 0 = .ok (.aload_n 0, 1) := by decide +kernel
theorem dX12_hasElement_1 : decode cX12_hasElement 1 = .ok (.iload_n 1, 1) := by decide +kernel
theorem dX12_hasElement_2 : decode cX12_hasElement 2 = .ok (.invokevirtual 285, 3) := by decide +kernel
theorem dX12_hasElement_5 : decode cX12_hasElement 5 = .ok (.ifCond .eq 32, 3) := by decide +kernel
theorem dX12_hasElement_8 : decode cX12_hasElement 8 = .ok (.aload_n 0, 1) := by decide +kernel
theorem dX12_hasElement_9 : decode cX12_hasElement 9 = .ok (.iload_n 1, 1) := by decide +kernel
theorem dX12_hasElement_10 : decode cX12_hasElement 10 = .ok (.invokevirtual 164, 3) := by decide +kernel
theorem dX12_hasElement_13 : decode cX12_hasElement 13 = .ok (.ifCond .ne 20, 3) := by decide +kernel
theorem dX12_hasElement_16 : decode cX12_hasElement 16 = .ok (.iload_n 2, 1) := by decide +kernel
theorem dX12_hasElement_17 : decode cX12_hasElement 17 = .ok (.i2l, 1) := by decide +kernel
theorem dX12_hasElement_18 : decode cX12_hasElement 18 = .ok (.lconst 0, 1) := by decide +kernel
theorem dX12_hasElement_19 : decode cX12_hasElement 19 = .ok (.aload_n 0, 1) := by decide +kernel
theorem dX12_hasElement_20 : decode cX12_hasElement 20 = .ok (.iload_n 1, 1) := by decide +kernel
theorem dX12_hasElement_21 : decode cX12_hasElement 21 = .ok (.invokevirtual 121, 3) := by decide +kernel
theorem dX12_hasElement_24 : decode cX12_hasElement 24 = .ok (.iconst 1, 1) := by decide +kernel
theorem dX12_hasElement_25 : decode cX12_hasElement 25 = .ok (.isub, 1) := by decide +kernel
theorem dX12_hasElement_26 : decode cX12_hasElement 26 = .ok (.i2l, 1) := by decide +kernel
theorem dX12_hasElement_27 : decode cX12_hasElement 27 = .ok (.invokestatic 167, 3) := by decide +kernel
theorem dX12_hasElement_30 : decode cX12_hasElement 30 = .ok (.ifCond .eq 7, 3) := by decide +kernel
theorem dX12_hasElement_33 : decode cX12_hasElement 33 = .ok (.iconst 1, 1) := by decide +kernel
theorem dX12_hasElement_34 : decode cX12_hasElement 34 = .ok (.goto 4, 3) := by decide +kernel
theorem dX12_hasElement_37 : decode cX12_hasElement 37 = .ok (.iconst 0, 1) := by decide +kernel
theorem dX12_hasElement_38 : decode cX12_hasElement 38 = .ok (.ireturn, 1) := by decide +kernel
theorem dX12_checkElement_0 : decode cX12_checkElement 0 = .ok (.aload_n 0, 1) := by decide +kernel
theorem dX12_checkElement_1 : decode cX12_checkElement 1 = .ok (.iload_n 1, 1) := by decide +kernel
theorem dX12_checkElement_2 : decode cX12_checkElement 2 = .ok (.iload_n 2, 1) := by decide +kernel
theorem dX12_checkElement_3 : decode cX12_checkElement 3 = .ok (.invokevirtual 340, 3) := by decide +kernel
theorem dX12_checkElement_6 : decode cX12_checkElement 6 = .ok (.istore_n 3, 1) := by decide +kernel
theorem dX12_checkElement_7 : decode cX12_checkElement 7 = .ok (.aload_n 0, 1) := by decide +kernel
theorem dX12_checkElement_8 : decode cX12_checkElement 8 = .ok (.iload_n 3, 1) := by decide +kernel
theorem dX12_checkElement_9 : decode cX12_checkElement 9 = .ok (.iload_n 3, 1) := by decide +kernel
theorem dX12_checkElement_10 : decode cX12_checkElement 10 = .ok (.ifCond .eq 15, 3) := by decide +kernel
theorem dX12_checkElement_13 : decode cX12_checkElement 13 = .ok (.aload_n 0, 1) := by decide +kernel
theorem dX12_checkElement_14 : decode cX12_checkElement 14 = .ok (.iload_n 1, 1) := by decide +kernel
theorem dX12_checkElement_15 : decode cX12_checkElement 15 = .ok (.invokevirtual 164, 3) := by decide +kernel
theorem dX12_checkElement_18 : decode cX12_checkElement 18 = .ok (.ifCond .ne 7, 3) := by decide +kernel
theorem dX12_checkElement_21 : decode cX12_checkElement 21 = .ok (.iconst 1, 1) := by decide +kernel
theorem dX12_checkElement_22 : decode cX12_checkElement 22 = .ok (.goto 4, 3) := by decide +kernel
theorem dX12_checkElement_25 : decode cX12_checkElement 25 = .ok (.iconst 0, 1) := by decide +kernel
theorem dX12_checkElement_26 : decode cX12_checkElement 26 = .ok (.iconst 1, 1) := by decide +kernel
theorem dX12_checkElement_27 : decode cX12_checkElement 27 = .ok (.invokevirtual 330, 3) := by decide +kernel
theorem dX12_checkElement_30 : decode cX12_checkElement 30 = .ok (.ireturn, 1) := by decide +kernel
theorem dX12_size_0 : decode cX12_size 0 = .ok (.aload_n 0, 1) := by decide +kernel
theorem dX12_size_1 : decode cX12_size 1 = .ok (.iload_n 1, 1) := by decide +kernel
theorem dX12_size_2 : decode cX12_size 2 = .ok (.invokevirtual 343, 3) := by decide +kernel
theorem dX12_size_5 : decode cX12_size 5 = .ok (.ifCond .eq 11, 3) := by decide +kernel
theorem dX12_size_8 : decode cX12_size 8 = .ok (.aload_n 0, 1) := by decide +kernel
theorem dX12_size_9 : decode cX12_size 9 = .ok (.iload_n 1, 1) := by decide +kernel
theorem dX12_size_10 : decode cX12_size 10 = .ok (.invokevirtual 121, 3) := by decide +kernel
theorem dX12_size_13 : decode cX12_size 13 = .ok (.goto 4, 3) := by decide +kernel
theorem dX12_size_16 : decode cX12_size 16 = .ok (.iconst 0, 1) := by decide +kernel
theorem dX12_size_17 : decode cX12_size 17 = .ok (.ireturn, 1) := by decide +kernel
theorem dX12_height_0 : decode cX12_height 0 = .ok (.aload_n 0, 1) := by decide +kernel
theorem dX12_height_1 : decode cX12_height 1 = .ok (.iload_n 1, 1) := by decide +kernel
theorem dX12_height_2 : decode cX12_height 2 = .ok (.invokevirtual 343, 3) := by decide +kernel
theorem dX12_height_5 : decode cX12_height 5 = .ok (.ifCond .eq 11, 3) := by decide +kernel
theorem dX12_height_8 : decode cX12_height 8 = .ok (.aload_n 0, 1) := by decide +kernel
theorem dX12_height_9 : decode cX12_height 9 = .ok (.iload_n 1, 1) := by decide +kernel
theorem dX12_height_10 : decode cX12_height 10 = .ok (.invokevirtual 148, 3) := by decide +kernel
theorem dX12_height_13 : decode cX12_height 13 = .ok (.goto 4, 3) := by decide +kernel
theorem dX12_height_16 : decode cX12_height 16 = .ok (.iconst 0, 1) := by decide +kernel
theorem dX12_height_17 : decode cX12_height 17 = .ok (.ireturn, 1) := by decide +kernel
theorem dX12_rootOf_0 : decode cX12_rootOf 0 = .ok (.aload_n 0, 1) := by decide +kernel
theorem dX12_rootOf_1 : decode cX12_rootOf 1 = .ok (.iload_n 1, 1) := by decide +kernel
theorem dX12_rootOf_2 : decode cX12_rootOf 2 = .ok (.invokevirtual 343, 3) := by decide +kernel
theorem dX12_rootOf_5 : decode cX12_rootOf 5 = .ok (.ifCond .eq 11, 3) := by decide +kernel
theorem dX12_rootOf_8 : decode cX12_rootOf 8 = .ok (.aload_n 0, 1) := by decide +kernel
theorem dX12_rootOf_9 : decode cX12_rootOf 9 = .ok (.iload_n 1, 1) := by decide +kernel
theorem dX12_rootOf_10 : decode cX12_rootOf 10 = .ok (.invokevirtual 145, 3) := by decide +kernel
theorem dX12_rootOf_13 : decode cX12_rootOf 13 = .ok (.goto 4, 3) := by decide +kernel
theorem dX12_rootOf_16 : decode cX12_rootOf 16 = .ok (.iconst 0, 1) := by decide +kernel
theorem dX12_rootOf_17 : decode cX12_rootOf 17 = .ok (.ireturn, 1) := by decide +kernel
theorem dX12_get_0 : decode cX12_get 0 = .ok (.aload_n 0, 1) := by decide +kernel
theorem dX12_get_1 : decode cX12_get 1 = .ok (.iload_n 1, 1) := by decide +kernel
theorem dX12_get_2 : decode cX12_get 2 = .ok (.iload_n 2, 1) := by decide +kernel
theorem dX12_get_3 : decode cX12_get 3 = .ok (.invokevirtual 346, 3) := by decide +kernel
theorem dX12_get_6 : decode cX12_get 6 = .ok (.ifCond .eq 12, 3) := by decide +kernel
theorem dX12_get_9 : decode cX12_get 9 = .ok (.aload_n 0, 1) := by decide +kernel
theorem dX12_get_10 : decode cX12_get 10 = .ok (.iload_n 1, 1) := by decide +kernel
theorem dX12_get_11 : decode cX12_get 11 = .ok (.iload_n 2, 1) := by decide +kernel
theorem dX12_get_12 : decode cX12_get 12 = .ok (.invokevirtual 129, 3) := by decide +kernel
theorem dX12_get_15 : decode cX12_get 15 = .ok (.goto 4, 3) := by decide +kernel
theorem dX12_get_18 : decode cX12_get 18 = .ok (.iconst 0, 1) := by decide +kernel
theorem dX12_get_19 : decode cX12_get 19 = .ok (.ireturn, 1) := by decide +kernel
theorem dX12_leafOf_0 : decode cX12_leafOf 0 = .ok (.aload_n 0, 1) := by decide +kernel
theorem dX12_leafOf_1 : decode cX12_leafOf 1 = .ok (.iload_n 1, 1) := by decide +kernel
theorem dX12_leafOf_2 : decode cX12_leafOf 2 = .ok (.iload_n 2, 1) := by decide +kernel
theorem dX12_leafOf_3 : decode cX12_leafOf 3 = .ok (.invokevirtual 346, 3) := by decide +kernel
theorem dX12_leafOf_6 : decode cX12_leafOf 6 = .ok (.ifCond .ne 5, 3) := by decide +kernel
theorem dX12_leafOf_9 : decode cX12_leafOf 9 = .ok (.iconst 0, 1) := by decide +kernel
theorem dX12_leafOf_10 : decode cX12_leafOf 10 = .ok (.ireturn, 1) := by decide +kernel
theorem dX12_leafOf_11 : decode cX12_leafOf 11 = .ok (.aload_n 0, 1) := by decide +kernel
theorem dX12_leafOf_12 : decode cX12_leafOf 12 = .ok (.iload_n 1, 1) := by decide +kernel
theorem dX12_leafOf_13 : decode cX12_leafOf 13 = .ok (.invokevirtual 145, 3) := by decide +kernel
theorem dX12_leafOf_16 : decode cX12_leafOf 16 = .ok (.istore_n 3, 1) := by decide +kernel
theorem dX12_leafOf_17 : decode cX12_leafOf 17 = .ok (.aload_n 0, 1) := by decide +kernel
theorem dX12_leafOf_18 : decode cX12_leafOf 18 = .ok (.iload_n 1, 1) := by decide +kernel
theorem dX12_leafOf_19 : decode cX12_leafOf 19 = .ok (.invokevirtual 148, 3) := by decide +kernel
theorem dX12_leafOf_22 : decode cX12_leafOf 22 = .ok (.istore 4, 2) := by decide +kernel
theorem dX12_leafOf_24 : decode cX12_leafOf 24 = .ok (.iload 4, 2) := by decide +kernel
theorem dX12_leafOf_26 : decode cX12_leafOf 26 = .ok (.iconst 1, 1) := by decide +kernel
theorem dX12_leafOf_27 : decode cX12_leafOf 27 = .ok (.if_icmp .le 26, 3) := by decide +kernel
theorem dX12_leafOf_30 : decode cX12_leafOf 30 = .ok (.aload_n 0, 1) := by decide +kernel
theorem dX12_leafOf_31 : decode cX12_leafOf 31 = .ok (.iload_n 3, 1) := by decide +kernel
theorem dX12_leafOf_32 : decode cX12_leafOf 32 = .ok (.iload_n 2, 1) := by decide +kernel
theorem dX12_leafOf_33 : decode cX12_leafOf 33 = .ok (.iload 4, 2) := by decide +kernel
theorem dX12_leafOf_35 : decode cX12_leafOf 35 = .ok (.iconst 1, 1) := by decide +kernel
theorem dX12_leafOf_36 : decode cX12_leafOf 36 = .ok (.isub, 1) := by decide +kernel
theorem dX12_leafOf_37 : decode cX12_leafOf 37 = .ok (.invokestatic 64, 3) := by decide +kernel
theorem dX12_leafOf_40 : decode cX12_leafOf 40 = .ok (.idiv, 1) := by decide +kernel
theorem dX12_leafOf_41 : decode cX12_leafOf 41 = .ok (.iconst 4, 1) := by decide +kernel
theorem dX12_leafOf_42 : decode cX12_leafOf 42 = .ok (.irem, 1) := by decide +kernel
theorem dX12_leafOf_43 : decode cX12_leafOf 43 = .ok (.invokevirtual 71, 3) := by decide +kernel
theorem dX12_leafOf_46 : decode cX12_leafOf 46 = .ok (.istore_n 3, 1) := by decide +kernel
theorem dX12_leafOf_47 : decode cX12_leafOf 47 = .ok (.iinc 4 (-1), 3) := by decide +kernel
theorem dX12_leafOf_50 : decode cX12_leafOf 50 = .ok (.goto (-26), 3) := by decide +kernel
theorem dX12_leafOf_53 : decode cX12_leafOf 53 = .ok (.iload_n 3, 1) := by decide +kernel
theorem dX12_leafOf_54 : decode cX12_leafOf 54 = .ok (.ireturn, 1) := by decide +kernel
theorem dX12_sum_0 : decode cX12_sum 0 = .ok (.aload_n 0, 1) := by decide +kernel
theorem dX12_sum_1 : decode cX12_sum 1 = .ok (.iload_n 1, 1) := by decide +kernel
theorem dX12_sum_2 : decode cX12_sum 2 = .ok (.invokevirtual 343, 3) := by decide +kernel
theorem dX12_sum_5 : decode cX12_sum 5 = .ok (.ifCond .ne 5, 3) := by decide +kernel
theorem dX12_sum_8 : decode cX12_sum 8 = .ok (.iconst 0, 1) := by decide +kernel
theorem dX12_sum_9 : decode cX12_sum 9 = .ok (.ireturn, 1) := by decide +kernel
theorem dX12_sum_10 : decode cX12_sum 10 = .ok (.iconst 0, 1) := by decide +kernel
theorem dX12_sum_11 : decode cX12_sum 11 = .ok (.istore_n 2, 1) := by decide +kernel
theorem dX12_sum_12 : decode cX12_sum 12 = .ok (.iconst 0, 1) := by decide +kernel
theorem dX12_sum_13 : decode cX12_sum 13 = .ok (.istore_n 3, 1) := by decide +kernel
theorem dX12_sum_14 : decode cX12_sum 14 = .ok (.iload_n 3, 1) := by decide +kernel
theorem dX12_sum_15 : decode cX12_sum 15 = .ok (.aload_n 0, 1) := by decide +kernel
theorem dX12_sum_16 : decode cX12_sum 16 = .ok (.iload_n 1, 1) := by decide +kernel
theorem dX12_sum_17 : decode cX12_sum 17 = .ok (.invokevirtual 121, 3) := by decide +kernel
theorem dX12_sum_20 : decode cX12_sum 20 = .ok (.if_icmp .ge 18, 3) := by decide +kernel
theorem dX12_sum_23 : decode cX12_sum 23 = .ok (.iload_n 2, 1) := by decide +kernel
theorem dX12_sum_24 : decode cX12_sum 24 = .ok (.aload_n 0, 1) := by decide +kernel
theorem dX12_sum_25 : decode cX12_sum 25 = .ok (.iload_n 1, 1) := by decide +kernel
theorem dX12_sum_26 : decode cX12_sum 26 = .ok (.iload_n 3, 1) := by decide +kernel
theorem dX12_sum_27 : decode cX12_sum 27 = .ok (.invokevirtual 129, 3) := by decide +kernel
theorem dX12_sum_30 : decode cX12_sum 30 = .ok (.iadd, 1) := by decide +kernel
theorem dX12_sum_31 : decode cX12_sum 31 = .ok (.istore_n 2, 1) := by decide +kernel
theorem dX12_sum_32 : decode cX12_sum 32 = .ok (.iinc 3 1, 3) := by decide +kernel
theorem dX12_sum_35 : decode cX12_sum 35 = .ok (.goto (-21), 3) := by decide +kernel
theorem dX12_sum_38 : decode cX12_sum 38 = .ok (.iload_n 2, 1) := by decide +kernel
theorem dX12_sum_39 : decode cX12_sum 39 = .ok (.ireturn, 1) := by decide +kernel
theorem dX12_indexOf_0 : decode cX12_indexOf 0 = .ok (.aload_n 0, 1) := by decide +kernel
theorem dX12_indexOf_1 : decode cX12_indexOf 1 = .ok (.iload_n 1, 1) := by decide +kernel
theorem dX12_indexOf_2 : decode cX12_indexOf 2 = .ok (.invokevirtual 343, 3) := by decide +kernel
theorem dX12_indexOf_5 : decode cX12_indexOf 5 = .ok (.ifCond .ne 5, 3) := by decide +kernel
theorem dX12_indexOf_8 : decode cX12_indexOf 8 = .ok (.iconst 0, 1) := by decide +kernel
theorem dX12_indexOf_9 : decode cX12_indexOf 9 = .ok (.ireturn, 1) := by decide +kernel
theorem dX12_indexOf_10 : decode cX12_indexOf 10 = .ok (.iconst 0, 1) := by decide +kernel
theorem dX12_indexOf_11 : decode cX12_indexOf 11 = .ok (.istore_n 3, 1) := by decide +kernel
theorem dX12_indexOf_12 : decode cX12_indexOf 12 = .ok (.iload_n 3, 1) := by decide +kernel
theorem dX12_indexOf_13 : decode cX12_indexOf 13 = .ok (.aload_n 0, 1) := by decide +kernel
theorem dX12_indexOf_14 : decode cX12_indexOf 14 = .ok (.iload_n 1, 1) := by decide +kernel
theorem dX12_indexOf_15 : decode cX12_indexOf 15 = .ok (.invokevirtual 121, 3) := by decide +kernel
theorem dX12_indexOf_18 : decode cX12_indexOf 18 = .ok (.if_icmp .ge 21, 3) := by decide +kernel
theorem dX12_indexOf_21 : decode cX12_indexOf 21 = .ok (.aload_n 0, 1) := by decide +kernel
theorem dX12_indexOf_22 : decode cX12_indexOf 22 = .ok (.iload_n 1, 1) := by decide +kernel
theorem dX12_indexOf_23 : decode cX12_indexOf 23 = .ok (.iload_n 3, 1) := by decide +kernel
theorem dX12_indexOf_24 : decode cX12_indexOf 24 = .ok (.invokevirtual 129, 3) := by decide +kernel
theorem dX12_indexOf_27 : decode cX12_indexOf 27 = .ok (.iload_n 2, 1) := by decide +kernel
theorem dX12_indexOf_28 : decode cX12_indexOf 28 = .ok (.if_icmp .ne 5, 3) := by decide +kernel
theorem dX12_indexOf_31 : decode cX12_indexOf 31 = .ok (.iload_n 3, 1) := by decide +kernel
theorem dX12_indexOf_32 : decode cX12_indexOf 32 = .ok (.ireturn, 1) := by decide +kernel
theorem dX12_indexOf_33 : decode cX12_indexOf 33 = .ok (.iinc 3 1, 3) := by decide +kernel
theorem dX12_indexOf_36 : decode cX12_indexOf 36 = .ok (.goto (-24), 3) := by decide +kernel
theorem dX12_indexOf_39 : decode cX12_indexOf 39 = .ok (.iconst (-1), 1) := by decide +kernel
theorem dX12_indexOf_40 : decode cX12_indexOf 40 = .ok (.ireturn, 1) := by decide +kernel
theorem dX12_createdNodes_0 : decode cX12_createdNodes 0 = .ok (.aload_n 0, 1) := by decide +kernel
theorem dX12_createdNodes_1 : decode cX12_createdNodes 1 = .ok (.iconst 0, 1) := by decide +kernel
theorem dX12_createdNodes_2 : decode cX12_createdNodes 2 = .ok (.putfield 58, 3) := by decide +kernel
theorem dX12_createdNodes_5 : decode cX12_createdNodes 5 = .ok (.aload_n 0, 1) := by decide +kernel
theorem dX12_createdNodes_6 : decode cX12_createdNodes 6 = .ok (.getfield 9, 3) := by decide +kernel
theorem dX12_createdNodes_9 : decode cX12_createdNodes 9 = .ok (.iconst 1, 1) := by decide +kernel
theorem dX12_createdNodes_10 : decode cX12_createdNodes 10 = .ok (.iaload, 1) := by decide +kernel
theorem dX12_createdNodes_11 : decode cX12_createdNodes 11 = .ok (.ireturn, 1) := by decide +kernel
theorem dX12_storedNodes_0 : decode cX12_storedNodes 0 = .ok (.aload_n 0, 1) := by decide +kernel
theorem dX12_storedNodes_1 : decode cX12_storedNodes 1 = .ok (.iconst 0, 1) := by decide +kernel
theorem dX12_storedNodes_2 : decode cX12_storedNodes 2 = .ok (.putfield 58, 3) := by decide +kernel
theorem dX12_storedNodes_5 : decode cX12_storedNodes 5 = .ok (.aload_n 0, 1) := by decide +kernel
theorem dX12_storedNodes_6 : decode cX12_storedNodes 6 = .ok (.invokevirtual 349, 3) := by decide +kernel
theorem dX12_storedNodes_9 : decode cX12_storedNodes 9 = .ok (.ireturn, 1) := by decide +kernel
theorem dX12_garbageNodes_0 : decode cX12_garbageNodes 0 = .ok (.aload_n 0, 1) := by decide +kernel
theorem dX12_garbageNodes_1 : decode cX12_garbageNodes 1 = .ok (.iconst 0, 1) := by decide +kernel
theorem dX12_garbageNodes_2 : decode cX12_garbageNodes 2 = .ok (.putfield 58, 3) := by decide +kernel
theorem dX12_garbageNodes_5 : decode cX12_garbageNodes 5 = .ok (.aload_n 0, 1) := by decide +kernel
theorem dX12_garbageNodes_6 : decode cX12_garbageNodes 6 = .ok (.invokevirtual 177, 3) := by decide +kernel
theorem dX12_garbageNodes_9 : decode cX12_garbageNodes 9 = .ok (.ireturn, 1) := by decide +kernel
theorem dX12_nodesCreatedFor_0 : decode cX12_nodesCreatedFor 0 = .ok (.aload_n 0, 1) := by decide +kernel
theorem dX12_nodesCreatedFor_1 : decode cX12_nodesCreatedFor 1 = .ok (.iload_n 1, 1) := by decide +kernel
theorem dX12_nodesCreatedFor_2 : decode cX12_nodesCreatedFor 2 = .ok (.invokevirtual 334, 3) := by decide +kernel
theorem dX12_nodesCreatedFor_5 : decode cX12_nodesCreatedFor 5 = .ok (.ifCond .eq 17, 3) := by decide +kernel
theorem dX12_nodesCreatedFor_8 : decode cX12_nodesCreatedFor 8 = .ok (.aload_n 0, 1) := by decide +kernel
theorem dX12_nodesCreatedFor_9 : decode cX12_nodesCreatedFor 9 = .ok (.getfield 9, 3) := by decide +kernel
theorem dX12_nodesCreatedFor_12 : decode cX12_nodesCreatedFor 12 = .ok (.iload_n 1, 1) := by decide +kernel
theorem dX12_nodesCreatedFor_13 : decode cX12_nodesCreatedFor 13 = .ok (.invokestatic 112, 3) := by decide +kernel
theorem dX12_nodesCreatedFor_16 : decode cX12_nodesCreatedFor 16 = .ok (.iconst 5, 1) := by decide +kernel
theorem dX12_nodesCreatedFor_17 : decode cX12_nodesCreatedFor 17 = .ok (.iadd, 1) := by decide +kernel
theorem dX12_nodesCreatedFor_18 : decode cX12_nodesCreatedFor 18 = .ok (.iaload, 1) := by decide +kernel
theorem dX12_nodesCreatedFor_19 : decode cX12_nodesCreatedFor 19 = .ok (.goto 4, 3) := by decide +kernel
theorem dX12_nodesCreatedFor_22 : decode cX12_nodesCreatedFor 22 = .ok (.iconst 0, 1) := by decide +kernel
theorem dX12_nodesCreatedFor_23 : decode cX12_nodesCreatedFor 23 = .ok (.ireturn, 1) := by decide +kernel
theorem dX12_countReached_0 : decode cX12_countReached 0 = .ok (.iconst 0, 1) := by decide +kernel
theorem dX12_countReached_1 : decode cX12_countReached 1 = .ok (.istore_n 2, 1) := by decide +kernel
theorem dX12_countReached_2 : decode cX12_countReached 2 = .ok (.iconst 0, 1) := by decide +kernel
theorem dX12_countReached_3 : decode cX12_countReached 3 = .ok (.istore_n 3, 1) := by decide +kernel
theorem dX12_countReached_4 : decode cX12_countReached 4 = .ok (.iload_n 3, 1) := by decide +kernel
theorem dX12_countReached_5 : decode cX12_countReached 5 = .ok (.aload_n 0, 1) := by decide +kernel
theorem dX12_countReached_6 : decode cX12_countReached 6 = .ok (.getfield 9, 3) := by decide +kernel
theorem dX12_countReached_9 : decode cX12_countReached 9 = .ok (.iconst 1, 1) := by decide +kernel
theorem dX12_countReached_10 : decode cX12_countReached 10 = .ok (.iaload, 1) := by decide +kernel
theorem dX12_countReached_11 : decode cX12_countReached 11 = .ok (.if_icmp .ge 30, 3) := by decide +kernel
theorem dX12_countReached_14 : decode cX12_countReached 14 = .ok (.iload_n 2, 1) := by decide +kernel
theorem dX12_countReached_15 : decode cX12_countReached 15 = .ok (.aload_n 0, 1) := by decide +kernel
theorem dX12_countReached_16 : decode cX12_countReached 16 = .ok (.getfield 32, 3) := by decide +kernel
theorem dX12_countReached_19 : decode cX12_countReached 19 = .ok (.iload_n 3, 1) := by decide +kernel
theorem dX12_countReached_20 : decode cX12_countReached 20 = .ok (.iaload, 1) := by decide +kernel
theorem dX12_countReached_21 : decode cX12_countReached 21 = .ok (.iload_n 1, 1) := by decide +kernel
theorem dX12_countReached_22 : decode cX12_countReached 22 = .ok (.if_icmp .ne 7, 3) := by decide +kernel
theorem dX12_countReached_25 : decode cX12_countReached 25 = .ok (.iconst 1, 1) := by decide +kernel
theorem dX12_countReached_26 : decode cX12_countReached 26 = .ok (.goto 4, 3) := by decide +kernel
theorem dX12_countReached_29 : decode cX12_countReached 29 = .ok (.iconst 0, 1) := by decide +kernel
theorem dX12_countReached_30 : decode cX12_countReached 30 = .ok (.invokestatic 75, 3) := by decide +kernel
theorem dX12_countReached_33 : decode cX12_countReached 33 = .ok (.iadd, 1) := by decide +kernel
theorem dX12_countReached_34 : decode cX12_countReached 34 = .ok (.istore_n 2, 1) := by decide +kernel
theorem dX12_countReached_35 : decode cX12_countReached 35 = .ok (.iinc 3 1, 3) := by decide +kernel
theorem dX12_countReached_38 : decode cX12_countReached 38 = .ok (.goto (-34), 3) := by decide +kernel
theorem dX12_countReached_41 : decode cX12_countReached 41 = .ok (.iload_n 2, 1) := by decide +kernel
theorem dX12_countReached_42 : decode cX12_countReached 42 = .ok (.ireturn, 1) := by decide +kernel
theorem dX12_countNodes_0 : decode cX12_countNodes 0 = .ok (.aload_n 0, 1) := by decide +kernel
theorem dX12_countNodes_1 : decode cX12_countNodes 1 = .ok (.invokevirtual 161, 3) := by decide +kernel
theorem dX12_countNodes_4 : decode cX12_countNodes 4 = .ok (.aload_n 0, 1) := by decide +kernel
theorem dX12_countNodes_5 : decode cX12_countNodes 5 = .ok (.aload_n 0, 1) := by decide +kernel
theorem dX12_countNodes_6 : decode cX12_countNodes 6 = .ok (.iload_n 1, 1) := by decide +kernel
theorem dX12_countNodes_7 : decode cX12_countNodes 7 = .ok (.invokevirtual 145, 3) := by decide +kernel
theorem dX12_countNodes_10 : decode cX12_countNodes 10 = .ok (.invokevirtual 157, 3) := by decide +kernel
theorem dX12_countNodes_13 : decode cX12_countNodes 13 = .ok (.aload_n 0, 1) := by decide +kernel
theorem dX12_countNodes_14 : decode cX12_countNodes 14 = .ok (.iconst 1, 1) := by decide +kernel
theorem dX12_countNodes_15 : decode cX12_countNodes 15 = .ok (.invokevirtual 352, 3) := by decide +kernel
theorem dX12_countNodes_18 : decode cX12_countNodes 18 = .ok (.ireturn, 1) := by decide +kernel
theorem dX12_nodesOf_0 : decode cX12_nodesOf 0 = .ok (.aload_n 0, 1) := by decide +kernel
theorem dX12_nodesOf_1 : decode cX12_nodesOf 1 = .ok (.iload_n 1, 1) := by decide +kernel
theorem dX12_nodesOf_2 : decode cX12_nodesOf 2 = .ok (.invokevirtual 343, 3) := by decide +kernel
theorem dX12_nodesOf_5 : decode cX12_nodesOf 5 = .ok (.ifCond .eq 11, 3) := by decide +kernel
theorem dX12_nodesOf_8 : decode cX12_nodesOf 8 = .ok (.aload_n 0, 1) := by decide +kernel
theorem dX12_nodesOf_9 : decode cX12_nodesOf 9 = .ok (.iload_n 1, 1) := by decide +kernel
theorem dX12_nodesOf_10 : decode cX12_nodesOf 10 = .ok (.invokevirtual 355, 3) := by decide +kernel
theorem dX12_nodesOf_13 : decode cX12_nodesOf 13 = .ok (.goto 4, 3) := by decide +kernel
theorem dX12_nodesOf_16 : decode cX12_nodesOf 16 = .ok (.iconst 0, 1) := by decide +kernel
theorem dX12_nodesOf_17 : decode cX12_nodesOf 17 = .ok (.ireturn, 1) := by decide +kernel
theorem dX12_checkTwo_0 : decode cX12_checkTwo 0 = .ok (.aload_n 0, 1) := by decide +kernel
theorem dX12_checkTwo_1 : decode cX12_checkTwo 1 = .ok (.iload_n 1, 1) := by decide +kernel
theorem dX12_checkTwo_2 : decode cX12_checkTwo 2 = .ok (.invokevirtual 285, 3) := by decide +kernel
theorem dX12_checkTwo_5 : decode cX12_checkTwo 5 = .ok (.ifCond .eq 15, 3) := by decide +kernel
theorem dX12_checkTwo_8 : decode cX12_checkTwo 8 = .ok (.aload_n 0, 1) := by decide +kernel
theorem dX12_checkTwo_9 : decode cX12_checkTwo 9 = .ok (.iload_n 2, 1) := by decide +kernel
theorem dX12_checkTwo_10 : decode cX12_checkTwo 10 = .ok (.invokevirtual 285, 3) := by decide +kernel
theorem dX12_checkTwo_13 : decode cX12_checkTwo 13 = .ok (.ifCond .eq 7, 3) := by decide +kernel
theorem dX12_checkTwo_16 : decode cX12_checkTwo 16 = .ok (.iconst 1, 1) := by decide +kernel
theorem dX12_checkTwo_17 : decode cX12_checkTwo 17 = .ok (.goto 4, 3) := by decide +kernel
theorem dX12_checkTwo_20 : decode cX12_checkTwo 20 = .ok (.iconst 0, 1) := by decide +kernel
theorem dX12_checkTwo_21 : decode cX12_checkTwo 21 = .ok (.istore_n 3, 1) := by decide +kernel
theorem dX12_checkTwo_22 : decode cX12_checkTwo 22 = .ok (.aload_n 0, 1) := by decide +kernel
theorem dX12_checkTwo_23 : decode cX12_checkTwo 23 = .ok (.iload_n 3, 1) := by decide +kernel
theorem dX12_checkTwo_24 : decode cX12_checkTwo 24 = .ok (.iload_n 3, 1) := by decide +kernel
theorem dX12_checkTwo_25 : decode cX12_checkTwo 25 = .ok (.ifCond .eq 23, 3) := by decide +kernel
theorem dX12_checkTwo_28 : decode cX12_checkTwo 28 = .ok (.aload_n 0, 1) := by decide +kernel
theorem dX12_checkTwo_29 : decode cX12_checkTwo 29 = .ok (.iload_n 1, 1) := by decide +kernel
theorem dX12_checkTwo_30 : decode cX12_checkTwo 30 = .ok (.invokevirtual 164, 3) := by decide +kernel
theorem dX12_checkTwo_33 : decode cX12_checkTwo 33 = .ok (.ifCond .ne 15, 3) := by decide +kernel
theorem dX12_checkTwo_36 : decode cX12_checkTwo 36 = .ok (.aload_n 0, 1) := by decide +kernel
theorem dX12_checkTwo_37 : decode cX12_checkTwo 37 = .ok (.iload_n 2, 1) := by decide +kernel
theorem dX12_checkTwo_38 : decode cX12_checkTwo 38 = .ok (.invokevirtual 164, 3) := by decide +kernel
theorem dX12_checkTwo_41 : decode cX12_checkTwo 41 = .ok (.ifCond .ne 7, 3) := by decide +kernel
theorem dX12_checkTwo_44 : decode cX12_checkTwo 44 = .ok (.iconst 1, 1) := by decide +kernel
theorem dX12_checkTwo_45 : decode cX12_checkTwo 45 = .ok (.goto 4, 3) := by decide +kernel
theorem dX12_checkTwo_48 : decode cX12_checkTwo 48 = .ok (.iconst 0, 1) := by decide +kernel
theorem dX12_checkTwo_49 : decode cX12_checkTwo 49 = .ok (.iconst 1, 1) := by decide +kernel
theorem dX12_checkTwo_50 : decode cX12_checkTwo 50 = .ok (.invokevirtual 330, 3) := by decide +kernel
theorem dX12_checkTwo_53 : decode cX12_checkTwo 53 = .ok (.ireturn, 1) := by decide +kernel
theorem dX12_sharedNodes_0 : decode cX12_sharedNodes 0 = .ok (.aload_n 0, 1) := by decide +kernel
theorem dX12_sharedNodes_1 : decode cX12_sharedNodes 1 = .ok (.iload_n 1, 1) := by decide +kernel
theorem dX12_sharedNodes_2 : decode cX12_sharedNodes 2 = .ok (.iload_n 2, 1) := by decide +kernel
theorem dX12_sharedNodes_3 : decode cX12_sharedNodes 3 = .ok (.invokevirtual 358, 3) := by decide +kernel
theorem dX12_sharedNodes_6 : decode cX12_sharedNodes 6 = .ok (.ifCond .ne 5, 3) := by decide +kernel
theorem dX12_sharedNodes_9 : decode cX12_sharedNodes 9 = .ok (.iconst 0, 1) := by decide +kernel
theorem dX12_sharedNodes_10 : decode cX12_sharedNodes 10 = .ok (.ireturn, 1) := by decide +kernel
theorem dX12_sharedNodes_11 : decode cX12_sharedNodes 11 = .ok (.aload_n 0, 1) := by decide +kernel
theorem dX12_sharedNodes_12 : decode cX12_sharedNodes 12 = .ok (.invokevirtual 161, 3) := by decide +kernel
theorem dX12_sharedNodes_15 : decode cX12_sharedNodes 15 = .ok (.aload_n 0, 1) := by decide +kernel
theorem dX12_sharedNodes_16 : decode cX12_sharedNodes 16 = .ok (.aload_n 0, 1) := by decide +kernel
theorem dX12_sharedNodes_17 : decode cX12_sharedNodes 17 = .ok (.iload_n 1, 1) := by decide +kernel
theorem dX12_sharedNodes_18 : decode cX12_sharedNodes 18 = .ok (.invokevirtual 145, 3) := by decide +kernel
theorem dX12_sharedNodes_21 : decode cX12_sharedNodes 21 = .ok (.invokevirtual 157, 3) := by decide +kernel
theorem dX12_sharedNodes_24 : decode cX12_sharedNodes 24 = .ok (.aload_n 0, 1) := by decide +kernel
theorem dX12_sharedNodes_25 : decode cX12_sharedNodes 25 = .ok (.aload_n 0, 1) := by decide +kernel
theorem dX12_sharedNodes_26 : decode cX12_sharedNodes 26 = .ok (.iload_n 2, 1) := by decide +kernel
theorem dX12_sharedNodes_27 : decode cX12_sharedNodes 27 = .ok (.invokevirtual 145, 3) := by decide +kernel
theorem dX12_sharedNodes_30 : decode cX12_sharedNodes 30 = .ok (.invokevirtual 157, 3) := by decide +kernel
theorem dX12_sharedNodes_33 : decode cX12_sharedNodes 33 = .ok (.aload_n 0, 1) := by decide +kernel
theorem dX12_sharedNodes_34 : decode cX12_sharedNodes 34 = .ok (.iconst 2, 1) := by decide +kernel
theorem dX12_sharedNodes_35 : decode cX12_sharedNodes 35 = .ok (.invokevirtual 352, 3) := by decide +kernel
theorem dX12_sharedNodes_38 : decode cX12_sharedNodes 38 = .ok (.ireturn, 1) := by decide +kernel
theorem dX12_countExclusive_0 : decode cX12_countExclusive 0 = .ok (.aload_n 0, 1) := by decide +kernel
theorem dX12_countExclusive_1 : decode cX12_countExclusive 1 = .ok (.invokevirtual 174, 3) := by decide +kernel
theorem dX12_countExclusive_4 : decode cX12_countExclusive 4 = .ok (.aload_n 0, 1) := by decide +kernel
theorem dX12_countExclusive_5 : decode cX12_countExclusive 5 = .ok (.invokevirtual 361, 3) := by decide +kernel
theorem dX12_countExclusive_8 : decode cX12_countExclusive 8 = .ok (.istore_n 2, 1) := by decide +kernel
theorem dX12_countExclusive_9 : decode cX12_countExclusive 9 = .ok (.aload_n 0, 1) := by decide +kernel
theorem dX12_countExclusive_10 : decode cX12_countExclusive 10 = .ok (.getfield 9, 3) := by decide +kernel
theorem dX12_countExclusive_13 : decode cX12_countExclusive 13 = .ok (.iload_n 1, 1) := by decide +kernel
theorem dX12_countExclusive_14 : decode cX12_countExclusive 14 = .ok (.invokestatic 112, 3) := by decide +kernel
theorem dX12_countExclusive_17 : decode cX12_countExclusive 17 = .ok (.iconst 4, 1) := by decide +kernel
theorem dX12_countExclusive_18 : decode cX12_countExclusive 18 = .ok (.iadd, 1) := by decide +kernel
theorem dX12_countExclusive_19 : decode cX12_countExclusive 19 = .ok (.iconst 1, 1) := by decide +kernel
theorem dX12_countExclusive_20 : decode cX12_countExclusive 20 = .ok (.iastore, 1) := by decide +kernel
theorem dX12_countExclusive_21 : decode cX12_countExclusive 21 = .ok (.aload_n 0, 1) := by decide +kernel
theorem dX12_countExclusive_22 : decode cX12_countExclusive 22 = .ok (.invokevirtual 174, 3) := by decide +kernel
theorem dX12_countExclusive_25 : decode cX12_countExclusive 25 = .ok (.aload_n 0, 1) := by decide +kernel
theorem dX12_countExclusive_26 : decode cX12_countExclusive 26 = .ok (.invokevirtual 361, 3) := by decide +kernel
theorem dX12_countExclusive_29 : decode cX12_countExclusive 29 = .ok (.iload_n 2, 1) := by decide +kernel
theorem dX12_countExclusive_30 : decode cX12_countExclusive 30 = .ok (.isub, 1) := by decide +kernel
theorem dX12_countExclusive_31 : decode cX12_countExclusive 31 = .ok (.istore_n 3, 1) := by decide +kernel
theorem dX12_countExclusive_32 : decode cX12_countExclusive 32 = .ok (.aload_n 0, 1) := by decide +kernel
theorem dX12_countExclusive_33 : decode cX12_countExclusive 33 = .ok (.getfield 9, 3) := by decide +kernel
theorem dX12_countExclusive_36 : decode cX12_countExclusive 36 = .ok (.iload_n 1, 1) := by decide +kernel
theorem dX12_countExclusive_37 : decode cX12_countExclusive 37 = .ok (.invokestatic 112, 3) := by decide +kernel
theorem dX12_countExclusive_40 : decode cX12_countExclusive 40 = .ok (.iconst 4, 1) := by decide +kernel
theorem dX12_countExclusive_41 : decode cX12_countExclusive 41 = .ok (.iadd, 1) := by decide +kernel
theorem dX12_countExclusive_42 : decode cX12_countExclusive 42 = .ok (.iconst 0, 1) := by decide +kernel
theorem dX12_countExclusive_43 : decode cX12_countExclusive 43 = .ok (.iastore, 1) := by decide +kernel
theorem dX12_countExclusive_44 : decode cX12_countExclusive 44 = .ok (.iload_n 3, 1) := by decide +kernel
theorem dX12_countExclusive_45 : decode cX12_countExclusive 45 = .ok (.ireturn, 1) := by decide +kernel
theorem dX12_countGarbageOf_0 : decode cX12_countGarbageOf 0 = .ok (.iconst 0, 1) := by decide +kernel
theorem dX12_countGarbageOf_1 : decode cX12_countGarbageOf 1 = .ok (.istore_n 1, 1) := by decide +kernel
theorem dX12_countGarbageOf_2 : decode cX12_countGarbageOf 2 = .ok (.iconst 0, 1) := by decide +kernel
theorem dX12_countGarbageOf_3 : decode cX12_countGarbageOf 3 = .ok (.istore_n 2, 1) := by decide +kernel
theorem dX12_countGarbageOf_4 : decode cX12_countGarbageOf 4 = .ok (.iload_n 2, 1) := by decide +kernel
theorem dX12_countGarbageOf_5 : decode cX12_countGarbageOf 5 = .ok (.aload_n 0, 1) := by decide +kernel
theorem dX12_countGarbageOf_6 : decode cX12_countGarbageOf 6 = .ok (.getfield 9, 3) := by decide +kernel
theorem dX12_countGarbageOf_9 : decode cX12_countGarbageOf 9 = .ok (.iconst 1, 1) := by decide +kernel
theorem dX12_countGarbageOf_10 : decode cX12_countGarbageOf 10 = .ok (.iaload, 1) := by decide +kernel
theorem dX12_countGarbageOf_11 : decode cX12_countGarbageOf 11 = .ok (.if_icmp .ge 37, 3) := by decide +kernel
theorem dX12_countGarbageOf_14 : decode cX12_countGarbageOf 14 = .ok (.iload_n 1, 1) := by decide +kernel
theorem dX12_countGarbageOf_15 : decode cX12_countGarbageOf 15 = .ok (.aload_n 0, 1) := by decide +kernel
theorem dX12_countGarbageOf_16 : decode cX12_countGarbageOf 16 = .ok (.iload_n 2, 1) := by decide +kernel
theorem dX12_countGarbageOf_17 : decode cX12_countGarbageOf 17 = .ok (.invokevirtual 171, 3) := by decide +kernel
theorem dX12_countGarbageOf_20 : decode cX12_countGarbageOf 20 = .ok (.ifCond .eq 16, 3) := by decide +kernel
theorem dX12_countGarbageOf_23 : decode cX12_countGarbageOf 23 = .ok (.aload_n 0, 1) := by decide +kernel
theorem dX12_countGarbageOf_24 : decode cX12_countGarbageOf 24 = .ok (.getfield 32, 3) := by decide +kernel
theorem dX12_countGarbageOf_27 : decode cX12_countGarbageOf 27 = .ok (.iload_n 2, 1) := by decide +kernel
theorem dX12_countGarbageOf_28 : decode cX12_countGarbageOf 28 = .ok (.iaload, 1) := by decide +kernel
theorem dX12_countGarbageOf_29 : decode cX12_countGarbageOf 29 = .ok (.ifCond .ne 7, 3) := by decide +kernel
theorem dX12_countGarbageOf_32 : decode cX12_countGarbageOf 32 = .ok (.iconst 1, 1) := by decide +kernel
theorem dX12_countGarbageOf_33 : decode cX12_countGarbageOf 33 = .ok (.goto 4, 3) := by decide +kernel
theorem dX12_countGarbageOf_36 : decode cX12_countGarbageOf 36 = .ok (.iconst 0, 1) := by decide +kernel
theorem dX12_countGarbageOf_37 : decode cX12_countGarbageOf 37 = .ok (.invokestatic 75, 3) := by decide +kernel
theorem dX12_countGarbageOf_40 : decode cX12_countGarbageOf 40 = .ok (.iadd, 1) := by decide +kernel
theorem dX12_countGarbageOf_41 : decode cX12_countGarbageOf 41 = .ok (.istore_n 1, 1) := by decide +kernel
theorem dX12_countGarbageOf_42 : decode cX12_countGarbageOf 42 = .ok (.iinc 2 1, 3) := by decide +kernel
theorem dX12_countGarbageOf_45 : decode cX12_countGarbageOf 45 = .ok (.goto (-41), 3) := by decide +kernel
theorem dX12_countGarbageOf_48 : decode cX12_countGarbageOf 48 = .ok (.iload_n 1, 1) := by decide +kernel
theorem dX12_countGarbageOf_49 : decode cX12_countGarbageOf 49 = .ok (.ireturn, 1) := by decide +kernel
theorem dX12_exclusiveNodes_0 : decode cX12_exclusiveNodes 0 = .ok (.aload_n 0, 1) := by decide +kernel
theorem dX12_exclusiveNodes_1 : decode cX12_exclusiveNodes 1 = .ok (.iload_n 1, 1) := by decide +kernel
theorem dX12_exclusiveNodes_2 : decode cX12_exclusiveNodes 2 = .ok (.invokevirtual 343, 3) := by decide +kernel
theorem dX12_exclusiveNodes_5 : decode cX12_exclusiveNodes 5 = .ok (.ifCond .eq 11, 3) := by decide +kernel
theorem dX12_exclusiveNodes_8 : decode cX12_exclusiveNodes 8 = .ok (.aload_n 0, 1) := by decide +kernel
theorem dX12_exclusiveNodes_9 : decode cX12_exclusiveNodes 9 = .ok (.iload_n 1, 1) := by decide +kernel
theorem dX12_exclusiveNodes_10 : decode cX12_exclusiveNodes 10 = .ok (.invokevirtual 364, 3) := by decide +kernel
theorem dX12_exclusiveNodes_13 : decode cX12_exclusiveNodes 13 = .ok (.goto 4, 3) := by decide +kernel
theorem dX12_exclusiveNodes_16 : decode cX12_exclusiveNodes 16 = .ok (.iconst 0, 1) := by decide +kernel
theorem dX12_exclusiveNodes_17 : decode cX12_exclusiveNodes 17 = .ok (.ireturn, 1) := by decide +kernel
theorem dX12_checkNode_0 : decode cX12_checkNode 0 = .ok (.aload_n 0, 1) := by decide +kernel
theorem dX12_checkNode_1 : decode cX12_checkNode 1 = .ok (.aload_n 0, 1) := by decide +kernel
theorem dX12_checkNode_2 : decode cX12_checkNode 2 = .ok (.iload_n 1, 1) := by decide +kernel
theorem dX12_checkNode_3 : decode cX12_checkNode 3 = .ok (.invokevirtual 171, 3) := by decide +kernel
theorem dX12_checkNode_6 : decode cX12_checkNode 6 = .ok (.iconst 1, 1) := by decide +kernel
theorem dX12_checkNode_7 : decode cX12_checkNode 7 = .ok (.iconst 1, 1) := by decide +kernel
theorem dX12_checkNode_8 : decode cX12_checkNode 8 = .ok (.invokevirtual 330, 3) := by decide +kernel
theorem dX12_checkNode_11 : decode cX12_checkNode 11 = .ok (.ireturn, 1) := by decide +kernel
theorem dX12_isLeaf_0 : decode cX12_isLeaf 0 = .ok (.aload_n 0, 1) := by decide +kernel
theorem dX12_isLeaf_1 : decode cX12_isLeaf 1 = .ok (.iload_n 1, 1) := by decide +kernel
theorem dX12_isLeaf_2 : decode cX12_isLeaf 2 = .ok (.invokevirtual 367, 3) := by decide +kernel
theorem dX12_isLeaf_5 : decode cX12_isLeaf 5 = .ok (.ifCond .eq 15, 3) := by decide +kernel
theorem dX12_isLeaf_8 : decode cX12_isLeaf 8 = .ok (.aload_n 0, 1) := by decide +kernel
theorem dX12_isLeaf_9 : decode cX12_isLeaf 9 = .ok (.iload_n 1, 1) := by decide +kernel
theorem dX12_isLeaf_10 : decode cX12_isLeaf 10 = .ok (.invokevirtual 90, 3) := by decide +kernel
theorem dX12_isLeaf_13 : decode cX12_isLeaf 13 = .ok (.ifCond .eq 7, 3) := by decide +kernel
theorem dX12_isLeaf_16 : decode cX12_isLeaf 16 = .ok (.iconst 1, 1) := by decide +kernel
theorem dX12_isLeaf_17 : decode cX12_isLeaf 17 = .ok (.goto 4, 3) := by decide +kernel
theorem dX12_isLeaf_20 : decode cX12_isLeaf 20 = .ok (.iconst 0, 1) := by decide +kernel
theorem dX12_isLeaf_21 : decode cX12_isLeaf 21 = .ok (.ireturn, 1) := by decide +kernel
theorem dX12_entryCount_0 : decode cX12_entryCount 0 = .ok (.aload_n 0, 1) := by decide +kernel
theorem dX12_entryCount_1 : decode cX12_entryCount 1 = .ok (.iload_n 1, 1) := by decide +kernel
theorem dX12_entryCount_2 : decode cX12_entryCount 2 = .ok (.invokevirtual 367, 3) := by decide +kernel
theorem dX12_entryCount_5 : decode cX12_entryCount 5 = .ok (.ifCond .eq 11, 3) := by decide +kernel
theorem dX12_entryCount_8 : decode cX12_entryCount 8 = .ok (.aload_n 0, 1) := by decide +kernel
theorem dX12_entryCount_9 : decode cX12_entryCount 9 = .ok (.iload_n 1, 1) := by decide +kernel
theorem dX12_entryCount_10 : decode cX12_entryCount 10 = .ok (.invokevirtual 79, 3) := by decide +kernel
theorem dX12_entryCount_13 : decode cX12_entryCount 13 = .ok (.goto 4, 3) := by decide +kernel
theorem dX12_entryCount_16 : decode cX12_entryCount 16 = .ok (.iconst 0, 1) := by decide +kernel
theorem dX12_entryCount_17 : decode cX12_entryCount 17 = .ok (.ireturn, 1) := by decide +kernel
theorem dX12_childOf_0 : decode cX12_childOf 0 = .ok (.aload_n 0, 1) := by decide +kernel
theorem dX12_childOf_1 : decode cX12_childOf 1 = .ok (.iload_n 1, 1) := by decide +kernel
theorem dX12_childOf_2 : decode cX12_childOf 2 = .ok (.invokevirtual 367, 3) := by decide +kernel
theorem dX12_childOf_5 : decode cX12_childOf 5 = .ok (.ifCond .ne 5, 3) := by decide +kernel
theorem dX12_childOf_8 : decode cX12_childOf 8 = .ok (.iconst 0, 1) := by decide +kernel
theorem dX12_childOf_9 : decode cX12_childOf 9 = .ok (.ireturn, 1) := by decide +kernel
theorem dX12_childOf_10 : decode cX12_childOf 10 = .ok (.aload_n 0, 1) := by decide +kernel
theorem dX12_childOf_11 : decode cX12_childOf 11 = .ok (.iload_n 1, 1) := by decide +kernel
theorem dX12_childOf_12 : decode cX12_childOf 12 = .ok (.invokevirtual 90, 3) := by decide +kernel
theorem dX12_childOf_15 : decode cX12_childOf 15 = .ok (.ifCond .ne 24, 3) := by decide +kernel
theorem dX12_childOf_18 : decode cX12_childOf 18 = .ok (.iload_n 2, 1) := by decide +kernel
theorem dX12_childOf_19 : decode cX12_childOf 19 = .ok (.i2l, 1) := by decide +kernel
theorem dX12_childOf_20 : decode cX12_childOf 20 = .ok (.lconst 0, 1) := by decide +kernel
theorem dX12_childOf_21 : decode cX12_childOf 21 = .ok (.aload_n 0, 1) := by decide +kernel
theorem dX12_childOf_22 : decode cX12_childOf 22 = .ok (.iload_n 1, 1) := by decide +kernel
theorem dX12_childOf_23 : decode cX12_childOf 23 = .ok (.invokevirtual 79, 3) := by decide +kernel
theorem dX12_childOf_26 : decode cX12_childOf 26 = .ok (.iconst 1, 1) := by decide +kernel
theorem dX12_childOf_27 : decode cX12_childOf 27 = .ok (.isub, 1) := by decide +kernel
theorem dX12_childOf_28 : decode cX12_childOf 28 = .ok (.i2l, 1) := by decide +kernel
theorem dX12_childOf_29 : decode cX12_childOf 29 = .ok (.invokestatic 167, 3) := by decide +kernel
theorem dX12_childOf_32 : decode cX12_childOf 32 = .ok (.ifCond .eq 7, 3) := by decide +kernel
theorem dX12_childOf_35 : decode cX12_childOf 35 = .ok (.iconst 1, 1) := by decide +kernel
theorem dX12_childOf_36 : decode cX12_childOf 36 = .ok (.goto 4, 3) := by decide +kernel
theorem dX12_childOf_39 : decode cX12_childOf 39 = .ok (.iconst 0, 1) := by decide +kernel
theorem dX12_childOf_40 : decode cX12_childOf 40 = .ok (.istore_n 3, 1) := by decide +kernel
theorem dX12_childOf_41 : decode cX12_childOf 41 = .ok (.iload_n 3, 1) := by decide +kernel
theorem dX12_childOf_42 : decode cX12_childOf 42 = .ok (.ifCond .eq 12, 3) := by decide +kernel
theorem dX12_childOf_45 : decode cX12_childOf 45 = .ok (.aload_n 0, 1) := by decide +kernel
theorem dX12_childOf_46 : decode cX12_childOf 46 = .ok (.iload_n 1, 1) := by decide +kernel
theorem dX12_childOf_47 : decode cX12_childOf 47 = .ok (.iload_n 2, 1) := by decide +kernel
theorem dX12_childOf_48 : decode cX12_childOf 48 = .ok (.invokevirtual 71, 3) := by decide +kernel
theorem dX12_childOf_51 : decode cX12_childOf 51 = .ok (.goto 4, 3) := by decide +kernel
theorem dX12_childOf_54 : decode cX12_childOf 54 = .ok (.iconst (-1), 1) := by decide +kernel
theorem dX12_childOf_55 : decode cX12_childOf 55 = .ok (.ireturn, 1) := by decide +kernel
theorem dX12_hasChild_0 : decode cX12_hasChild 0 = .ok (.aload_n 0, 1) := by decide +kernel
theorem dX12_hasChild_1 : decode cX12_hasChild 1 = .ok (.iload_n 1, 1) := by decide +kernel
theorem dX12_hasChild_2 : decode cX12_hasChild 2 = .ok (.invokevirtual 171, 3) := by decide +kernel
theorem dX12_hasChild_5 : decode cX12_hasChild 5 = .ok (.ifCond .eq 11, 3) := by decide +kernel
theorem dX12_hasChild_8 : decode cX12_hasChild 8 = .ok (.aload_n 0, 1) := by decide +kernel
theorem dX12_hasChild_9 : decode cX12_hasChild 9 = .ok (.iload_n 1, 1) := by decide +kernel
theorem dX12_hasChild_10 : decode cX12_hasChild 10 = .ok (.invokevirtual 90, 3) := by decide +kernel
theorem dX12_hasChild_13 : decode cX12_hasChild 13 = .ok (.ifCond .eq 5, 3) := by decide +kernel
theorem dX12_hasChild_16 : decode cX12_hasChild 16 = .ok (.iconst 0, 1) := by decide +kernel
theorem dX12_hasChild_17 : decode cX12_hasChild 17 = .ok (.ireturn, 1) := by decide +kernel
theorem dX12_hasChild_18 : decode cX12_hasChild 18 = .ok (.iconst 0, 1) := by decide +kernel
theorem dX12_hasChild_19 : decode cX12_hasChild 19 = .ok (.istore_n 3, 1) := by decide +kernel
theorem dX12_hasChild_20 : decode cX12_hasChild 20 = .ok (.iload_n 3, 1) := by decide +kernel
theorem dX12_hasChild_21 : decode cX12_hasChild 21 = .ok (.aload_n 0, 1) := by decide +kernel
theorem dX12_hasChild_22 : decode cX12_hasChild 22 = .ok (.iload_n 1, 1) := by decide +kernel
theorem dX12_hasChild_23 : decode cX12_hasChild 23 = .ok (.invokevirtual 79, 3) := by decide +kernel
theorem dX12_hasChild_26 : decode cX12_hasChild 26 = .ok (.if_icmp .ge 21, 3) := by decide +kernel
theorem dX12_hasChild_29 : decode cX12_hasChild 29 = .ok (.aload_n 0, 1) := by decide +kernel
theorem dX12_hasChild_30 : decode cX12_hasChild 30 = .ok (.iload_n 1, 1) := by decide +kernel
theorem dX12_hasChild_31 : decode cX12_hasChild 31 = .ok (.iload_n 3, 1) := by decide +kernel
theorem dX12_hasChild_32 : decode cX12_hasChild 32 = .ok (.invokevirtual 71, 3) := by decide +kernel
theorem dX12_hasChild_35 : decode cX12_hasChild 35 = .ok (.iload_n 2, 1) := by decide +kernel
theorem dX12_hasChild_36 : decode cX12_hasChild 36 = .ok (.if_icmp .ne 5, 3) := by decide +kernel
theorem dX12_hasChild_39 : decode cX12_hasChild 39 = .ok (.iconst 1, 1) := by decide +kernel
theorem dX12_hasChild_40 : decode cX12_hasChild 40 = .ok (.ireturn, 1) := by decide +kernel
theorem dX12_hasChild_41 : decode cX12_hasChild 41 = .ok (.iinc 3 1, 3) := by decide +kernel
theorem dX12_hasChild_44 : decode cX12_hasChild 44 = .ok (.goto (-24), 3) := by decide +kernel
theorem dX12_hasChild_47 : decode cX12_hasChild 47 = .ok (.iconst 0, 1) := by decide +kernel
theorem dX12_hasChild_48 : decode cX12_hasChild 48 = .ok (.ireturn, 1) := by decide +kernel
theorem dX12_referencesTo_0 : decode cX12_referencesTo 0 = .ok (.aload_n 0, 1) := by decide +kernel
theorem dX12_referencesTo_1 : decode cX12_referencesTo 1 = .ok (.iload_n 1, 1) := by decide +kernel
theorem dX12_referencesTo_2 : decode cX12_referencesTo 2 = .ok (.invokevirtual 367, 3) := by decide +kernel
theorem dX12_referencesTo_5 : decode cX12_referencesTo 5 = .ok (.ifCond .ne 5, 3) := by decide +kernel
theorem dX12_referencesTo_8 : decode cX12_referencesTo 8 = .ok (.iconst 0, 1) := by decide +kernel
theorem dX12_referencesTo_9 : decode cX12_referencesTo 9 = .ok (.ireturn, 1) := by decide +kernel
theorem dX12_referencesTo_10 : decode cX12_referencesTo 10 = .ok (.iconst 0, 1) := by decide +kernel
theorem dX12_referencesTo_11 : decode cX12_referencesTo 11 = .ok (.istore_n 2, 1) := by decide +kernel
theorem dX12_referencesTo_12 : decode cX12_referencesTo 12 = .ok (.iconst 0, 1) := by decide +kernel
theorem dX12_referencesTo_13 : decode cX12_referencesTo 13 = .ok (.istore_n 3, 1) := by decide +kernel
theorem dX12_referencesTo_14 : decode cX12_referencesTo 14 = .ok (.iload_n 3, 1) := by decide +kernel
theorem dX12_referencesTo_15 : decode cX12_referencesTo 15 = .ok (.aload_n 0, 1) := by decide +kernel
theorem dX12_referencesTo_16 : decode cX12_referencesTo 16 = .ok (.getfield 9, 3) := by decide +kernel
theorem dX12_referencesTo_19 : decode cX12_referencesTo 19 = .ok (.iconst 0, 1) := by decide +kernel
theorem dX12_referencesTo_20 : decode cX12_referencesTo 20 = .ok (.iaload, 1) := by decide +kernel
theorem dX12_referencesTo_21 : decode cX12_referencesTo 21 = .ok (.if_icmp .ge 37, 3) := by decide +kernel
theorem dX12_referencesTo_24 : decode cX12_referencesTo 24 = .ok (.iload_n 2, 1) := by decide +kernel
theorem dX12_referencesTo_25 : decode cX12_referencesTo 25 = .ok (.aload_n 0, 1) := by decide +kernel
theorem dX12_referencesTo_26 : decode cX12_referencesTo 26 = .ok (.iload_n 3, 1) := by decide +kernel
theorem dX12_referencesTo_27 : decode cX12_referencesTo 27 = .ok (.invokevirtual 164, 3) := by decide +kernel
theorem dX12_referencesTo_30 : decode cX12_referencesTo 30 = .ok (.ifCond .ne 16, 3) := by decide +kernel
theorem dX12_referencesTo_33 : decode cX12_referencesTo 33 = .ok (.aload_n 0, 1) := by decide +kernel
theorem dX12_referencesTo_34 : decode cX12_referencesTo 34 = .ok (.iload_n 3, 1) := by decide +kernel
theorem dX12_referencesTo_35 : decode cX12_referencesTo 35 = .ok (.invokevirtual 145, 3) := by decide +kernel
theorem dX12_referencesTo_38 : decode cX12_referencesTo 38 = .ok (.iload_n 1, 1) := by decide +kernel
theorem dX12_referencesTo_39 : decode cX12_referencesTo 39 = .ok (.if_icmp .ne 7, 3) := by decide +kernel
theorem dX12_referencesTo_42 : decode cX12_referencesTo 42 = .ok (.iconst 1, 1) := by decide +kernel
theorem dX12_referencesTo_43 : decode cX12_referencesTo 43 = .ok (.goto 4, 3) := by decide +kernel
theorem dX12_referencesTo_46 : decode cX12_referencesTo 46 = .ok (.iconst 0, 1) := by decide +kernel
theorem dX12_referencesTo_47 : decode cX12_referencesTo 47 = .ok (.invokestatic 75, 3) := by decide +kernel
theorem dX12_referencesTo_50 : decode cX12_referencesTo 50 = .ok (.iadd, 1) := by decide +kernel
theorem dX12_referencesTo_51 : decode cX12_referencesTo 51 = .ok (.istore_n 2, 1) := by decide +kernel
theorem dX12_referencesTo_52 : decode cX12_referencesTo 52 = .ok (.iinc 3 1, 3) := by decide +kernel
theorem dX12_referencesTo_55 : decode cX12_referencesTo 55 = .ok (.goto (-41), 3) := by decide +kernel
theorem dX12_referencesTo_58 : decode cX12_referencesTo 58 = .ok (.iconst 0, 1) := by decide +kernel
theorem dX12_referencesTo_59 : decode cX12_referencesTo 59 = .ok (.istore_n 3, 1) := by decide +kernel
theorem dX12_referencesTo_60 : decode cX12_referencesTo 60 = .ok (.iload_n 3, 1) := by decide +kernel
theorem dX12_referencesTo_61 : decode cX12_referencesTo 61 = .ok (.aload_n 0, 1) := by decide +kernel
theorem dX12_referencesTo_62 : decode cX12_referencesTo 62 = .ok (.getfield 9, 3) := by decide +kernel
theorem dX12_referencesTo_65 : decode cX12_referencesTo 65 = .ok (.iconst 1, 1) := by decide +kernel
theorem dX12_referencesTo_66 : decode cX12_referencesTo 66 = .ok (.iaload, 1) := by decide +kernel
theorem dX12_referencesTo_67 : decode cX12_referencesTo 67 = .ok (.if_icmp .ge 21, 3) := by decide +kernel
theorem dX12_referencesTo_70 : decode cX12_referencesTo 70 = .ok (.iload_n 2, 1) := by decide +kernel
theorem dX12_referencesTo_71 : decode cX12_referencesTo 71 = .ok (.aload_n 0, 1) := by decide +kernel
theorem dX12_referencesTo_72 : decode cX12_referencesTo 72 = .ok (.iload_n 3, 1) := by decide +kernel
theorem dX12_referencesTo_73 : decode cX12_referencesTo 73 = .ok (.iload_n 1, 1) := by decide +kernel
theorem dX12_referencesTo_74 : decode cX12_referencesTo 74 = .ok (.invokevirtual 370, 3) := by decide +kernel
theorem dX12_referencesTo_77 : decode cX12_referencesTo 77 = .ok (.invokestatic 75, 3) := by decide +kernel
theorem dX12_referencesTo_80 : decode cX12_referencesTo 80 = .ok (.iadd, 1) := by decide +kernel
theorem dX12_referencesTo_81 : decode cX12_referencesTo 81 = .ok (.istore_n 2, 1) := by decide +kernel
theorem dX12_referencesTo_82 : decode cX12_referencesTo 82 = .ok (.iinc 3 1, 3) := by decide +kernel
theorem dX12_referencesTo_85 : decode cX12_referencesTo 85 = .ok (.goto (-25), 3) := by decide +kernel
theorem dX12_referencesTo_88 : decode cX12_referencesTo 88 = .ok (.iload_n 2, 1) := by decide +kernel
theorem dX12_referencesTo_89 : decode cX12_referencesTo 89 = .ok (.ireturn, 1) := by decide +kernel
theorem dX12_differAt_0 : decode cX12_differAt 0 = .ok (.iload_n 3, 1) := by decide +kernel
theorem dX12_differAt_1 : decode cX12_differAt 1 = .ok (.aload_n 0, 1) := by decide +kernel
theorem dX12_differAt_2 : decode cX12_differAt 2 = .ok (.iload_n 1, 1) := by decide +kernel
theorem dX12_differAt_3 : decode cX12_differAt 3 = .ok (.invokevirtual 121, 3) := by decide +kernel
theorem dX12_differAt_6 : decode cX12_differAt 6 = .ok (.if_icmp .ge 7, 3) := by decide +kernel
theorem dX12_differAt_9 : decode cX12_differAt 9 = .ok (.iconst 1, 1) := by decide +kernel
theorem dX12_differAt_10 : decode cX12_differAt 10 = .ok (.goto 4, 3) := by decide +kernel
theorem dX12_differAt_13 : decode cX12_differAt 13 = .ok (.iconst 0, 1) := by decide +kernel
theorem dX12_differAt_14 : decode cX12_differAt 14 = .ok (.istore 4, 2) := by decide +kernel
theorem dX12_differAt_16 : decode cX12_differAt 16 = .ok (.iload_n 3, 1) := by decide +kernel
theorem dX12_differAt_17 : decode cX12_differAt 17 = .ok (.aload_n 0, 1) := by decide +kernel
theorem dX12_differAt_18 : decode cX12_differAt 18 = .ok (.iload_n 2, 1) := by decide +kernel
theorem dX12_differAt_19 : decode cX12_differAt 19 = .ok (.invokevirtual 121, 3) := by decide +kernel
theorem dX12_differAt_22 : decode cX12_differAt 22 = .ok (.if_icmp .ge 7, 3) := by decide +kernel
theorem dX12_differAt_25 : decode cX12_differAt 25 = .ok (.iconst 1, 1) := by decide +kernel
theorem dX12_differAt_26 : decode cX12_differAt 26 = .ok (.goto 4, 3) := by decide +kernel
theorem dX12_differAt_29 : decode cX12_differAt 29 = .ok (.iconst 0, 1) := by decide +kernel
theorem dX12_differAt_30 : decode cX12_differAt 30 = .ok (.istore 5, 2) := by decide +kernel
theorem dX12_differAt_32 : decode cX12_differAt 32 = .ok (.iload 4, 2) := by decide +kernel
theorem dX12_differAt_34 : decode cX12_differAt 34 = .ok (.iload 5, 2) := by decide +kernel
theorem dX12_differAt_36 : decode cX12_differAt 36 = .ok (.if_icmp .eq 5, 3) := by decide +kernel
theorem dX12_differAt_39 : decode cX12_differAt 39 = .ok (.iconst 1, 1) := by decide +kernel
theorem dX12_differAt_40 : decode cX12_differAt 40 = .ok (.ireturn, 1) := by decide +kernel
theorem dX12_differAt_41 : decode cX12_differAt 41 = .ok (.iload 4, 2) := by decide +kernel
theorem dX12_differAt_43 : decode cX12_differAt 43 = .ok (.ifCond .eq 22, 3) := by decide +kernel
theorem dX12_differAt_46 : decode cX12_differAt 46 = .ok (.aload_n 0, 1) := by decide +kernel
theorem dX12_differAt_47 : decode cX12_differAt 47 = .ok (.iload_n 1, 1) := by decide +kernel
theorem dX12_differAt_48 : decode cX12_differAt 48 = .ok (.iload_n 3, 1) := by decide +kernel
theorem dX12_differAt_49 : decode cX12_differAt 49 = .ok (.invokevirtual 129, 3) := by decide +kernel
theorem dX12_differAt_52 : decode cX12_differAt 52 = .ok (.aload_n 0, 1) := by decide +kernel
theorem dX12_differAt_53 : decode cX12_differAt 53 = .ok (.iload_n 2, 1) := by decide +kernel
theorem dX12_differAt_54 : decode cX12_differAt 54 = .ok (.iload_n 3, 1) := by decide +kernel
theorem dX12_differAt_55 : decode cX12_differAt 55 = .ok (.invokevirtual 129, 3) := by decide +kernel
theorem dX12_differAt_58 : decode cX12_differAt 58 = .ok (.if_icmp .eq 7, 3) := by decide +kernel
theorem dX12_differAt_61 : decode cX12_differAt 61 = .ok (.iconst 1, 1) := by decide +kernel
theorem dX12_differAt_62 : decode cX12_differAt 62 = .ok (.goto 4, 3) := by decide +kernel
theorem dX12_differAt_65 : decode cX12_differAt 65 = .ok (.iconst 0, 1) := by decide +kernel
theorem dX12_differAt_66 : decode cX12_differAt 66 = .ok (.ireturn, 1) := by decide +kernel
theorem dX12_differences_0 : decode cX12_differences 0 = .ok (.aload_n 0, 1) := by decide +kernel
theorem dX12_differences_1 : decode cX12_differences 1 = .ok (.iload_n 1, 1) := by decide +kernel
theorem dX12_differences_2 : decode cX12_differences 2 = .ok (.iload_n 2, 1) := by decide +kernel
theorem dX12_differences_3 : decode cX12_differences 3 = .ok (.invokevirtual 358, 3) := by decide +kernel
theorem dX12_differences_6 : decode cX12_differences 6 = .ok (.ifCond .ne 5, 3) := by decide +kernel
theorem dX12_differences_9 : decode cX12_differences 9 = .ok (.iconst 0, 1) := by decide +kernel
theorem dX12_differences_10 : decode cX12_differences 10 = .ok (.ireturn, 1) := by decide +kernel
theorem dX12_differences_11 : decode cX12_differences 11 = .ok (.iconst 0, 1) := by decide +kernel
theorem dX12_differences_12 : decode cX12_differences 12 = .ok (.istore_n 3, 1) := by decide +kernel
theorem dX12_differences_13 : decode cX12_differences 13 = .ok (.iconst 0, 1) := by decide +kernel
theorem dX12_differences_14 : decode cX12_differences 14 = .ok (.istore 4, 2) := by decide +kernel
theorem dX12_differences_16 : decode cX12_differences 16 = .ok (.iload 4, 2) := by decide +kernel
theorem dX12_differences_18 : decode cX12_differences 18 = .ok (.bipush 64, 2) := by decide +kernel
theorem dX12_differences_20 : decode cX12_differences 20 = .ok (.if_icmp .ge 23, 3) := by decide +kernel
theorem dX12_differences_23 : decode cX12_differences 23 = .ok (.iload_n 3, 1) := by decide +kernel
theorem dX12_differences_24 : decode cX12_differences 24 = .ok (.aload_n 0, 1) := by decide +kernel
theorem dX12_differences_25 : decode cX12_differences 25 = .ok (.iload_n 1, 1) := by decide +kernel
theorem dX12_differences_26 : decode cX12_differences 26 = .ok (.iload_n 2, 1) := by decide +kernel
theorem dX12_differences_27 : decode cX12_differences 27 = .ok (.iload 4, 2) := by decide +kernel
theorem dX12_differences_29 : decode cX12_differences 29 = .ok (.invokevirtual 373, 3) := by decide +kernel
theorem dX12_differences_32 : decode cX12_differences 32 = .ok (.invokestatic 75, 3) := by decide +kernel
theorem dX12_differences_35 : decode cX12_differences 35 = .ok (.iadd, 1) := by decide +kernel
theorem dX12_differences_36 : decode cX12_differences 36 = .ok (.istore_n 3, 1) := by decide +kernel
theorem dX12_differences_37 : decode cX12_differences 37 = .ok (.iinc 4 1, 3) := by decide +kernel
theorem dX12_differences_40 : decode cX12_differences 40 = .ok (.goto (-24), 3) := by decide +kernel
theorem dX12_differences_43 : decode cX12_differences 43 = .ok (.iload_n 3, 1) := by decide +kernel
theorem dX12_differences_44 : decode cX12_differences 44 = .ok (.ireturn, 1) := by decide +kernel
theorem dX12_firstDifference_0 : decode cX12_firstDifference 0 = .ok (.aload_n 0, 1) := by decide +kernel
theorem dX12_firstDifference_1 : decode cX12_firstDifference 1 = .ok (.iload_n 1, 1) := by decide +kernel
theorem dX12_firstDifference_2 : decode cX12_firstDifference 2 = .ok (.iload_n 2, 1) := by decide +kernel
theorem dX12_firstDifference_3 : decode cX12_firstDifference 3 = .ok (.invokevirtual 358, 3) := by decide +kernel
theorem dX12_firstDifference_6 : decode cX12_firstDifference 6 = .ok (.ifCond .ne 5, 3) := by decide +kernel
theorem dX12_firstDifference_9 : decode cX12_firstDifference 9 = .ok (.iconst 0, 1) := by decide +kernel
theorem dX12_firstDifference_10 : decode cX12_firstDifference 10 = .ok (.ireturn, 1) := by decide +kernel
theorem dX12_firstDifference_11 : decode cX12_firstDifference 11 = .ok (.iconst 0, 1) := by decide +kernel
theorem dX12_firstDifference_12 : decode cX12_firstDifference 12 = .ok (.istore_n 3, 1) := by decide +kernel
theorem dX12_firstDifference_13 : decode cX12_firstDifference 13 = .ok (.iload_n 3, 1) := by decide +kernel
theorem dX12_firstDifference_14 : decode cX12_firstDifference 14 = .ok (.bipush 64, 2) := by decide +kernel
theorem dX12_firstDifference_16 : decode cX12_firstDifference 16 = .ok (.if_icmp .ge 21, 3) := by decide +kernel
theorem dX12_firstDifference_19 : decode cX12_firstDifference 19 = .ok (.aload_n 0, 1) := by decide +kernel
theorem dX12_firstDifference_20 : decode cX12_firstDifference 20 = .ok (.iload_n 1, 1) := by decide +kernel
theorem dX12_firstDifference_21 : decode cX12_firstDifference 21 = .ok (.iload_n 2, 1) := by decide +kernel
theorem dX12_firstDifference_22 : decode cX12_firstDifference 22 = .ok (.iload_n 3, 1) := by decide +kernel
theorem dX12_firstDifference_23 : decode cX12_firstDifference 23 = .ok (.invokevirtual 373, 3) := by decide +kernel
theorem dX12_firstDifference_26 : decode cX12_firstDifference 26 = .ok (.ifCond .eq 5, 3) := by decide +kernel
theorem dX12_firstDifference_29 : decode cX12_firstDifference 29 = .ok (.iload_n 3, 1) := by decide +kernel
theorem dX12_firstDifference_30 : decode cX12_firstDifference 30 = .ok (.ireturn, 1) := by decide +kernel
theorem dX12_firstDifference_31 : decode cX12_firstDifference 31 = .ok (.iinc 3 1, 3) := by decide +kernel
theorem dX12_firstDifference_34 : decode cX12_firstDifference 34 = .ok (.goto (-21), 3) := by decide +kernel
theorem dX12_firstDifference_37 : decode cX12_firstDifference 37 = .ok (.iconst (-1), 1) := by decide +kernel
theorem dX12_firstDifference_38 : decode cX12_firstDifference 38 = .ok (.ireturn, 1) := by decide +kernel
theorem dX12_cost_0 : decode cX12_cost 0 = .ok (.iload_n 1, 1) := by decide +kernel
theorem dX12_cost_1 : decode cX12_cost 1 = .ok (.iload_n 2, 1) := by decide +kernel
theorem dX12_cost_2 : decode cX12_cost 2 = .ok (.if_icmp .ne 5, 3) := by decide +kernel
theorem dX12_cost_5 : decode cX12_cost 5 = .ok (.iconst 0, 1) := by decide +kernel
theorem dX12_cost_6 : decode cX12_cost 6 = .ok (.ireturn, 1) := by decide +kernel
theorem dX12_cost_7 : decode cX12_cost 7 = .ok (.aload_n 0, 1) := by decide +kernel
theorem dX12_cost_8 : decode cX12_cost 8 = .ok (.iload_n 1, 1) := by decide +kernel
theorem dX12_cost_9 : decode cX12_cost 9 = .ok (.invokevirtual 90, 3) := by decide +kernel
theorem dX12_cost_12 : decode cX12_cost 12 = .ok (.ifCond .eq 5, 3) := by decide +kernel
theorem dX12_cost_15 : decode cX12_cost 15 = .ok (.iconst 1, 1) := by decide +kernel
theorem dX12_cost_16 : decode cX12_cost 16 = .ok (.ireturn, 1) := by decide +kernel
theorem dX12_cost_17 : decode cX12_cost 17 = .ok (.iconst 1, 1) := by decide +kernel
theorem dX12_cost_18 : decode cX12_cost 18 = .ok (.istore_n 3, 1) := by decide +kernel
theorem dX12_cost_19 : decode cX12_cost 19 = .ok (.aload_n 0, 1) := by decide +kernel
theorem dX12_cost_20 : decode cX12_cost 20 = .ok (.iload_n 1, 1) := by decide +kernel
theorem dX12_cost_21 : decode cX12_cost 21 = .ok (.invokevirtual 79, 3) := by decide +kernel
theorem dX12_cost_24 : decode cX12_cost 24 = .ok (.aload_n 0, 1) := by decide +kernel
theorem dX12_cost_25 : decode cX12_cost 25 = .ok (.iload_n 2, 1) := by decide +kernel
theorem dX12_cost_26 : decode cX12_cost 26 = .ok (.invokevirtual 79, 3) := by decide +kernel
theorem dX12_cost_29 : decode cX12_cost 29 = .ok (.invokestatic 124, 3) := by decide +kernel
theorem dX12_cost_32 : decode cX12_cost 32 = .ok (.istore 4, 2) := by decide +kernel
theorem dX12_cost_34 : decode cX12_cost 34 = .ok (.iconst 0, 1) := by decide +kernel
theorem dX12_cost_35 : decode cX12_cost 35 = .ok (.istore 5, 2) := by decide +kernel
theorem dX12_cost_37 : decode cX12_cost 37 = .ok (.iload 5, 2) := by decide +kernel
theorem dX12_cost_39 : decode cX12_cost 39 = .ok (.iload 4, 2) := by decide +kernel
theorem dX12_cost_41 : decode cX12_cost 41 = .ok (.if_icmp .ge 30, 3) := by decide +kernel
theorem dX12_cost_44 : decode cX12_cost 44 = .ok (.iload_n 3, 1) := by decide +kernel
theorem dX12_cost_45 : decode cX12_cost 45 = .ok (.aload_n 0, 1) := by decide +kernel
theorem dX12_cost_46 : decode cX12_cost 46 = .ok (.aload_n 0, 1) := by decide +kernel
theorem dX12_cost_47 : decode cX12_cost 47 = .ok (.iload_n 1, 1) := by decide +kernel
theorem dX12_cost_48 : decode cX12_cost 48 = .ok (.iload 5, 2) := by decide +kernel
theorem dX12_cost_50 : decode cX12_cost 50 = .ok (.invokevirtual 71, 3) := by decide +kernel
theorem dX12_cost_53 : decode cX12_cost 53 = .ok (.aload_n 0, 1) := by decide +kernel
theorem dX12_cost_54 : decode cX12_cost 54 = .ok (.iload_n 2, 1) := by decide +kernel
theorem dX12_cost_55 : decode cX12_cost 55 = .ok (.iload 5, 2) := by decide +kernel
theorem dX12_cost_57 : decode cX12_cost 57 = .ok (.invokevirtual 71, 3) := by decide +kernel
theorem dX12_cost_60 : decode cX12_cost 60 = .ok (.invokevirtual 376, 3) := by decide +kernel
theorem dX12_cost_63 : decode cX12_cost 63 = .ok (.iadd, 1) := by decide +kernel
theorem dX12_cost_64 : decode cX12_cost 64 = .ok (.istore_n 3, 1) := by decide +kernel
theorem dX12_cost_65 : decode cX12_cost 65 = .ok (.iinc 5 1, 3) := by decide +kernel
theorem dX12_cost_68 : decode cX12_cost 68 = .ok (.goto (-31), 3) := by decide +kernel
theorem dX12_cost_71 : decode cX12_cost 71 = .ok (.iload_n 3, 1) := by decide +kernel
theorem dX12_cost_72 : decode cX12_cost 72 = .ok (.ireturn, 1) := by decide +kernel
theorem dX12_comparisonCost_0 : decode cX12_comparisonCost 0 = .ok (.aload_n 0, 1) := by decide +kernel
theorem dX12_comparisonCost_1 : decode cX12_comparisonCost 1 = .ok (.iload_n 1, 1) := by decide +kernel
theorem dX12_comparisonCost_2 : decode cX12_comparisonCost 2 = .ok (.iload_n 2, 1) := by decide +kernel
theorem dX12_comparisonCost_3 : decode cX12_comparisonCost 3 = .ok (.invokevirtual 358, 3) := by decide +kernel
theorem dX12_comparisonCost_6 : decode cX12_comparisonCost 6 = .ok (.ifCond .ne 5, 3) := by decide +kernel
theorem dX12_comparisonCost_9 : decode cX12_comparisonCost 9 = .ok (.iconst 0, 1) := by decide +kernel
theorem dX12_comparisonCost_10 : decode cX12_comparisonCost 10 = .ok (.ireturn, 1) := by decide +kernel
theorem dX12_comparisonCost_11 : decode cX12_comparisonCost 11 = .ok (.aload_n 0, 1) := by decide +kernel
theorem dX12_comparisonCost_12 : decode cX12_comparisonCost 12 = .ok (.iload_n 1, 1) := by decide +kernel
theorem dX12_comparisonCost_13 : decode cX12_comparisonCost 13 = .ok (.invokevirtual 148, 3) := by decide +kernel
theorem dX12_comparisonCost_16 : decode cX12_comparisonCost 16 = .ok (.aload_n 0, 1) := by decide +kernel
theorem dX12_comparisonCost_17 : decode cX12_comparisonCost 17 = .ok (.iload_n 2, 1) := by decide +kernel
theorem dX12_comparisonCost_18 : decode cX12_comparisonCost 18 = .ok (.invokevirtual 148, 3) := by decide +kernel
theorem dX12_comparisonCost_21 : decode cX12_comparisonCost 21 = .ok (.if_icmp .eq 5, 3) := by decide +kernel
theorem dX12_comparisonCost_24 : decode cX12_comparisonCost 24 = .ok (.iconst (-1), 1) := by decide +kernel
theorem dX12_comparisonCost_25 : decode cX12_comparisonCost 25 = .ok (.ireturn, 1) := by decide +kernel
theorem dX12_comparisonCost_26 : decode cX12_comparisonCost 26 = .ok (.aload_n 0, 1) := by decide +kernel
theorem dX12_comparisonCost_27 : decode cX12_comparisonCost 27 = .ok (.aload_n 0, 1) := by decide +kernel
theorem dX12_comparisonCost_28 : decode cX12_comparisonCost 28 = .ok (.iload_n 1, 1) := by decide +kernel
theorem dX12_comparisonCost_29 : decode cX12_comparisonCost 29 = .ok (.invokevirtual 145, 3) := by decide +kernel
theorem dX12_comparisonCost_32 : decode cX12_comparisonCost 32 = .ok (.aload_n 0, 1) := by decide +kernel
theorem dX12_comparisonCost_33 : decode cX12_comparisonCost 33 = .ok (.iload_n 2, 1) := by decide +kernel
theorem dX12_comparisonCost_34 : decode cX12_comparisonCost 34 = .ok (.invokevirtual 145, 3) := by decide +kernel
theorem dX12_comparisonCost_37 : decode cX12_comparisonCost 37 = .ok (.invokevirtual 376, 3) := by decide +kernel
theorem dX12_comparisonCost_40 : decode cX12_comparisonCost 40 = .ok (.ireturn, 1) := by decide +kernel
theorem dX12_nodesForSet_0 : decode cX12_nodesForSet 0 = .ok (.aload_n 0, 1) := by decide +kernel
theorem dX12_nodesForSet_1 : decode cX12_nodesForSet 1 = .ok (.iload_n 1, 1) := by decide +kernel
theorem dX12_nodesForSet_2 : decode cX12_nodesForSet 2 = .ok (.iload_n 2, 1) := by decide +kernel
theorem dX12_nodesForSet_3 : decode cX12_nodesForSet 3 = .ok (.invokevirtual 340, 3) := by decide +kernel
theorem dX12_nodesForSet_6 : decode cX12_nodesForSet 6 = .ok (.istore 4, 2) := by decide +kernel
theorem dX12_nodesForSet_8 : decode cX12_nodesForSet 8 = .ok (.iload_n 3, 1) := by decide +kernel
theorem dX12_nodesForSet_9 : decode cX12_nodesForSet 9 = .ok (.i2l, 1) := by decide +kernel
theorem dX12_nodesForSet_10 : decode cX12_nodesForSet 10 = .ok (.ldc2_w 379, 3) := by decide +kernel
theorem dX12_nodesForSet_13 : decode cX12_nodesForSet 13 = .ok (.ldc2_w 381, 3) := by decide +kernel
theorem dX12_nodesForSet_16 : decode cX12_nodesForSet 16 = .ok (.invokestatic 167, 3) := by decide +kernel
theorem dX12_nodesForSet_19 : decode cX12_nodesForSet 19 = .ok (.istore 5, 2) := by decide +kernel
theorem dX12_nodesForSet_21 : decode cX12_nodesForSet 21 = .ok (.aload_n 0, 1) := by decide +kernel
theorem dX12_nodesForSet_22 : decode cX12_nodesForSet 22 = .ok (.iload 4, 2) := by decide +kernel
theorem dX12_nodesForSet_24 : decode cX12_nodesForSet 24 = .ok (.iload 5, 2) := by decide +kernel
theorem dX12_nodesForSet_26 : decode cX12_nodesForSet 26 = .ok (.iload 4, 2) := by decide +kernel
theorem dX12_nodesForSet_28 : decode cX12_nodesForSet 28 = .ok (.ifCond .eq 20, 3) := by decide +kernel
theorem dX12_nodesForSet_31 : decode cX12_nodesForSet 31 = .ok (.iload 5, 2) := by decide +kernel
theorem dX12_nodesForSet_33 : decode cX12_nodesForSet 33 = .ok (.ifCond .eq 15, 3) := by decide +kernel
theorem dX12_nodesForSet_36 : decode cX12_nodesForSet 36 = .ok (.aload_n 0, 1) := by decide +kernel
theorem dX12_nodesForSet_37 : decode cX12_nodesForSet 37 = .ok (.iload_n 1, 1) := by decide +kernel
theorem dX12_nodesForSet_38 : decode cX12_nodesForSet 38 = .ok (.invokevirtual 164, 3) := by decide +kernel
theorem dX12_nodesForSet_41 : decode cX12_nodesForSet 41 = .ok (.ifCond .ne 7, 3) := by decide +kernel
theorem dX12_nodesForSet_44 : decode cX12_nodesForSet 44 = .ok (.iconst 1, 1) := by decide +kernel
theorem dX12_nodesForSet_45 : decode cX12_nodesForSet 45 = .ok (.goto 4, 3) := by decide +kernel
theorem dX12_nodesForSet_48 : decode cX12_nodesForSet 48 = .ok (.iconst 0, 1) := by decide +kernel
theorem dX12_nodesForSet_49 : decode cX12_nodesForSet 49 = .ok (.invokevirtual 330, 3) := by decide +kernel
theorem dX12_nodesForSet_52 : decode cX12_nodesForSet 52 = .ok (.ifCond .ne 5, 3) := by decide +kernel
theorem dX12_nodesForSet_55 : decode cX12_nodesForSet 55 = .ok (.iconst 0, 1) := by decide +kernel
theorem dX12_nodesForSet_56 : decode cX12_nodesForSet 56 = .ok (.ireturn, 1) := by decide +kernel
theorem dX12_nodesForSet_57 : decode cX12_nodesForSet 57 = .ok (.aload_n 0, 1) := by decide +kernel
theorem dX12_nodesForSet_58 : decode cX12_nodesForSet 58 = .ok (.iload_n 1, 1) := by decide +kernel
theorem dX12_nodesForSet_59 : decode cX12_nodesForSet 59 = .ok (.iload_n 2, 1) := by decide +kernel
theorem dX12_nodesForSet_60 : decode cX12_nodesForSet 60 = .ok (.invokevirtual 129, 3) := by decide +kernel
theorem dX12_nodesForSet_63 : decode cX12_nodesForSet 63 = .ok (.iload_n 3, 1) := by decide +kernel
theorem dX12_nodesForSet_64 : decode cX12_nodesForSet 64 = .ok (.if_icmp .ne 7, 3) := by decide +kernel
theorem dX12_nodesForSet_67 : decode cX12_nodesForSet 67 = .ok (.iconst 0, 1) := by decide +kernel
theorem dX12_nodesForSet_68 : decode cX12_nodesForSet 68 = .ok (.goto 8, 3) := by decide +kernel
theorem dX12_nodesForSet_71 : decode cX12_nodesForSet 71 = .ok (.aload_n 0, 1) := by decide +kernel
theorem dX12_nodesForSet_72 : decode cX12_nodesForSet 72 = .ok (.iload_n 1, 1) := by decide +kernel
theorem dX12_nodesForSet_73 : decode cX12_nodesForSet 73 = .ok (.invokevirtual 148, 3) := by decide +kernel
theorem dX12_nodesForSet_76 : decode cX12_nodesForSet 76 = .ok (.ireturn, 1) := by decide +kernel
theorem dX12_nodesForAppend_0 : decode cX12_nodesForAppend 0 = .ok (.aload_n 0, 1) := by decide +kernel
theorem dX12_nodesForAppend_1 : decode cX12_nodesForAppend 1 = .ok (.iload_n 1, 1) := by decide +kernel
theorem dX12_nodesForAppend_2 : decode cX12_nodesForAppend 2 = .ok (.invokevirtual 343, 3) := by decide +kernel
theorem dX12_nodesForAppend_5 : decode cX12_nodesForAppend 5 = .ok (.ifCond .ne 5, 3) := by decide +kernel
theorem dX12_nodesForAppend_8 : decode cX12_nodesForAppend 8 = .ok (.iconst 0, 1) := by decide +kernel
theorem dX12_nodesForAppend_9 : decode cX12_nodesForAppend 9 = .ok (.ireturn, 1) := by decide +kernel
theorem dX12_nodesForAppend_10 : decode cX12_nodesForAppend 10 = .ok (.aload_n 0, 1) := by decide +kernel
theorem dX12_nodesForAppend_11 : decode cX12_nodesForAppend 11 = .ok (.iload_n 1, 1) := by decide +kernel
theorem dX12_nodesForAppend_12 : decode cX12_nodesForAppend 12 = .ok (.invokevirtual 121, 3) := by decide +kernel
theorem dX12_nodesForAppend_15 : decode cX12_nodesForAppend 15 = .ok (.istore_n 2, 1) := by decide +kernel
theorem dX12_nodesForAppend_16 : decode cX12_nodesForAppend 16 = .ok (.iload_n 2, 1) := by decide +kernel
theorem dX12_nodesForAppend_17 : decode cX12_nodesForAppend 17 = .ok (.bipush 64, 2) := by decide +kernel
theorem dX12_nodesForAppend_19 : decode cX12_nodesForAppend 19 = .ok (.if_icmp .ne 7, 3) := by decide +kernel
theorem dX12_nodesForAppend_22 : decode cX12_nodesForAppend 22 = .ok (.iconst (-1), 1) := by decide +kernel
theorem dX12_nodesForAppend_23 : decode cX12_nodesForAppend 23 = .ok (.goto 9, 3) := by decide +kernel
theorem dX12_nodesForAppend_26 : decode cX12_nodesForAppend 26 = .ok (.iload_n 2, 1) := by decide +kernel
theorem dX12_nodesForAppend_27 : decode cX12_nodesForAppend 27 = .ok (.iconst 1, 1) := by decide +kernel
theorem dX12_nodesForAppend_28 : decode cX12_nodesForAppend 28 = .ok (.iadd, 1) := by decide +kernel
theorem dX12_nodesForAppend_29 : decode cX12_nodesForAppend 29 = .ok (.invokestatic 118, 3) := by decide +kernel
theorem dX12_nodesForAppend_32 : decode cX12_nodesForAppend 32 = .ok (.ireturn, 1) := by decide +kernel
theorem dX12_garbageIfReleased_0 : decode cX12_garbageIfReleased 0 = .ok (.aload_n 0, 1) := by decide +kernel
theorem dX12_garbageIfReleased_1 : decode cX12_garbageIfReleased 1 = .ok (.iload_n 1, 1) := by decide +kernel
theorem dX12_garbageIfReleased_2 : decode cX12_garbageIfReleased 2 = .ok (.invokevirtual 343, 3) := by decide +kernel
theorem dX12_garbageIfReleased_5 : decode cX12_garbageIfReleased 5 = .ok (.ifCond .eq 11, 3) := by decide +kernel
theorem dX12_garbageIfReleased_8 : decode cX12_garbageIfReleased 8 = .ok (.aload_n 0, 1) := by decide +kernel
theorem dX12_garbageIfReleased_9 : decode cX12_garbageIfReleased 9 = .ok (.iload_n 1, 1) := by decide +kernel
theorem dX12_garbageIfReleased_10 : decode cX12_garbageIfReleased 10 = .ok (.invokevirtual 364, 3) := by decide +kernel
theorem dX12_garbageIfReleased_13 : decode cX12_garbageIfReleased 13 = .ok (.goto 4, 3) := by decide +kernel
theorem dX12_garbageIfReleased_16 : decode cX12_garbageIfReleased 16 = .ok (.iconst 0, 1) := by decide +kernel
theorem dX12_garbageIfReleased_17 : decode cX12_garbageIfReleased 17 = .ok (.ireturn, 1) := by decide +kernel
theorem dX12_largestVersion_0 : decode cX12_largestVersion 0 = .ok (.aload_n 0, 1) := by decide +kernel
theorem dX12_largestVersion_1 : decode cX12_largestVersion 1 = .ok (.iconst 0, 1) := by decide +kernel
theorem dX12_largestVersion_2 : decode cX12_largestVersion 2 = .ok (.putfield 58, 3) := by decide +kernel
theorem dX12_largestVersion_5 : decode cX12_largestVersion 5 = .ok (.iconst (-1), 1) := by decide +kernel
theorem dX12_largestVersion_6 : decode cX12_largestVersion 6 = .ok (.istore_n 1, 1) := by decide +kernel
theorem dX12_largestVersion_7 : decode cX12_largestVersion 7 = .ok (.iconst 0, 1) := by decide +kernel
theorem dX12_largestVersion_8 : decode cX12_largestVersion 8 = .ok (.istore_n 2, 1) := by decide +kernel
theorem dX12_largestVersion_9 : decode cX12_largestVersion 9 = .ok (.iload_n 2, 1) := by decide +kernel
theorem dX12_largestVersion_10 : decode cX12_largestVersion 10 = .ok (.aload_n 0, 1) := by decide +kernel
theorem dX12_largestVersion_11 : decode cX12_largestVersion 11 = .ok (.getfield 9, 3) := by decide +kernel
theorem dX12_largestVersion_14 : decode cX12_largestVersion 14 = .ok (.iconst 0, 1) := by decide +kernel
theorem dX12_largestVersion_15 : decode cX12_largestVersion 15 = .ok (.iaload, 1) := by decide +kernel
theorem dX12_largestVersion_16 : decode cX12_largestVersion 16 = .ok (.if_icmp .ge 37, 3) := by decide +kernel
theorem dX12_largestVersion_19 : decode cX12_largestVersion 19 = .ok (.aload_n 0, 1) := by decide +kernel
theorem dX12_largestVersion_20 : decode cX12_largestVersion 20 = .ok (.iload_n 2, 1) := by decide +kernel
theorem dX12_largestVersion_21 : decode cX12_largestVersion 21 = .ok (.invokevirtual 164, 3) := by decide +kernel
theorem dX12_largestVersion_24 : decode cX12_largestVersion 24 = .ok (.ifCond .ne 23, 3) := by decide +kernel
theorem dX12_largestVersion_27 : decode cX12_largestVersion 27 = .ok (.iload_n 1, 1) := by decide +kernel
theorem dX12_largestVersion_28 : decode cX12_largestVersion 28 = .ok (.iconst (-1), 1) := by decide +kernel
theorem dX12_largestVersion_29 : decode cX12_largestVersion 29 = .ok (.if_icmp .eq 16, 3) := by decide +kernel
theorem dX12_largestVersion_32 : decode cX12_largestVersion 32 = .ok (.aload_n 0, 1) := by decide +kernel
theorem dX12_largestVersion_33 : decode cX12_largestVersion 33 = .ok (.iload_n 2, 1) := by decide +kernel
theorem dX12_largestVersion_34 : decode cX12_largestVersion 34 = .ok (.invokevirtual 121, 3) := by decide +kernel
theorem dX12_largestVersion_37 : decode cX12_largestVersion 37 = .ok (.aload_n 0, 1) := by decide +kernel
theorem dX12_largestVersion_38 : decode cX12_largestVersion 38 = .ok (.iload_n 1, 1) := by decide +kernel
theorem dX12_largestVersion_39 : decode cX12_largestVersion 39 = .ok (.invokevirtual 121, 3) := by decide +kernel
theorem dX12_largestVersion_42 : decode cX12_largestVersion 42 = .ok (.if_icmp .le 5, 3) := by decide +kernel
theorem dX12_largestVersion_45 : decode cX12_largestVersion 45 = .ok (.iload_n 2, 1) := by decide +kernel
theorem dX12_largestVersion_46 : decode cX12_largestVersion 46 = .ok (.istore_n 1, 1) := by decide +kernel
theorem dX12_largestVersion_47 : decode cX12_largestVersion 47 = .ok (.iinc 2 1, 3) := by decide +kernel
theorem dX12_largestVersion_50 : decode cX12_largestVersion 50 = .ok (.goto (-41), 3) := by decide +kernel
theorem dX12_largestVersion_53 : decode cX12_largestVersion 53 = .ok (.iload_n 1, 1) := by decide +kernel
theorem dX12_largestVersion_54 : decode cX12_largestVersion 54 = .ok (.ireturn, 1) := by decide +kernel
theorem dX12_sharing_0 : decode cX12_sharing 0 = .ok (.aload_n 0, 1) := by decide +kernel
theorem dX12_sharing_1 : decode cX12_sharing 1 = .ok (.iconst 0, 1) := by decide +kernel
theorem dX12_sharing_2 : decode cX12_sharing 2 = .ok (.putfield 58, 3) := by decide +kernel
theorem dX12_sharing_5 : decode cX12_sharing 5 = .ok (.aload_n 0, 1) := by decide +kernel
theorem dX12_sharing_6 : decode cX12_sharing 6 = .ok (.invokevirtual 174, 3) := by decide +kernel
theorem dX12_sharing_9 : decode cX12_sharing 9 = .ok (.iconst 0, 1) := by decide +kernel
theorem dX12_sharing_10 : decode cX12_sharing 10 = .ok (.istore_n 1, 1) := by decide +kernel
theorem dX12_sharing_11 : decode cX12_sharing 11 = .ok (.iconst 0, 1) := by decide +kernel
theorem dX12_sharing_12 : decode cX12_sharing 12 = .ok (.istore_n 2, 1) := by decide +kernel
theorem dX12_sharing_13 : decode cX12_sharing 13 = .ok (.iconst 0, 1) := by decide +kernel
theorem dX12_sharing_14 : decode cX12_sharing 14 = .ok (.istore_n 3, 1) := by decide +kernel
theorem dX12_sharing_15 : decode cX12_sharing 15 = .ok (.iload_n 3, 1) := by decide +kernel
theorem dX12_sharing_16 : decode cX12_sharing 16 = .ok (.aload_n 0, 1) := by decide +kernel
theorem dX12_sharing_17 : decode cX12_sharing 17 = .ok (.getfield 9, 3) := by decide +kernel
theorem dX12_sharing_20 : decode cX12_sharing 20 = .ok (.iconst 1, 1) := by decide +kernel
theorem dX12_sharing_21 : decode cX12_sharing 21 = .ok (.iaload, 1) := by decide +kernel
theorem dX12_sharing_22 : decode cX12_sharing 22 = .ok (.if_icmp .ge 38, 3) := by decide +kernel
theorem dX12_sharing_25 : decode cX12_sharing 25 = .ok (.iload_n 1, 1) := by decide +kernel
theorem dX12_sharing_26 : decode cX12_sharing 26 = .ok (.aload_n 0, 1) := by decide +kernel
theorem dX12_sharing_27 : decode cX12_sharing 27 = .ok (.getfield 32, 3) := by decide +kernel
theorem dX12_sharing_30 : decode cX12_sharing 30 = .ok (.iload_n 3, 1) := by decide +kernel
theorem dX12_sharing_31 : decode cX12_sharing 31 = .ok (.iaload, 1) := by decide +kernel
theorem dX12_sharing_32 : decode cX12_sharing 32 = .ok (.iadd, 1) := by decide +kernel
theorem dX12_sharing_33 : decode cX12_sharing 33 = .ok (.istore_n 1, 1) := by decide +kernel
theorem dX12_sharing_34 : decode cX12_sharing 34 = .ok (.iload_n 2, 1) := by decide +kernel
theorem dX12_sharing_35 : decode cX12_sharing 35 = .ok (.aload_n 0, 1) := by decide +kernel
theorem dX12_sharing_36 : decode cX12_sharing 36 = .ok (.getfield 32, 3) := by decide +kernel
theorem dX12_sharing_39 : decode cX12_sharing 39 = .ok (.iload_n 3, 1) := by decide +kernel
theorem dX12_sharing_40 : decode cX12_sharing 40 = .ok (.iaload, 1) := by decide +kernel
theorem dX12_sharing_41 : decode cX12_sharing 41 = .ok (.ifCond .le 7, 3) := by decide +kernel
theorem dX12_sharing_44 : decode cX12_sharing 44 = .ok (.iconst 1, 1) := by decide +kernel
theorem dX12_sharing_45 : decode cX12_sharing 45 = .ok (.goto 4, 3) := by decide +kernel
theorem dX12_sharing_48 : decode cX12_sharing 48 = .ok (.iconst 0, 1) := by decide +kernel
theorem dX12_sharing_49 : decode cX12_sharing 49 = .ok (.invokestatic 75, 3) := by decide +kernel
theorem dX12_sharing_52 : decode cX12_sharing 52 = .ok (.iadd, 1) := by decide +kernel
theorem dX12_sharing_53 : decode cX12_sharing 53 = .ok (.istore_n 2, 1) := by decide +kernel
theorem dX12_sharing_54 : decode cX12_sharing 54 = .ok (.iinc 3 1, 3) := by decide +kernel
theorem dX12_sharing_57 : decode cX12_sharing 57 = .ok (.goto (-42), 3) := by decide +kernel
theorem dX12_sharing_60 : decode cX12_sharing 60 = .ok (.iload_n 2, 1) := by decide +kernel
theorem dX12_sharing_61 : decode cX12_sharing 61 = .ok (.ifCond .ne 7, 3) := by decide +kernel
theorem dX12_sharing_64 : decode cX12_sharing 64 = .ok (.dconst 0, 1) := by decide +kernel
theorem dX12_sharing_65 : decode cX12_sharing 65 = .ok (.goto 8, 3) := by decide +kernel
theorem dX12_sharing_68 : decode cX12_sharing 68 = .ok (.iload_n 1, 1) := by decide +kernel
theorem dX12_sharing_69 : decode cX12_sharing 69 = .ok (.i2d, 1) := by decide +kernel
theorem dX12_sharing_70 : decode cX12_sharing 70 = .ok (.iload_n 2, 1) := by decide +kernel
theorem dX12_sharing_71 : decode cX12_sharing 71 = .ok (.i2d, 1) := by decide +kernel
theorem dX12_sharing_72 : decode cX12_sharing 72 = .ok (.ddiv, 1) := by decide +kernel
theorem dX12_sharing_73 : decode cX12_sharing 73 = .ok (.dreturn, 1) := by decide +kernel
theorem dX12_garbagePart_0 : decode cX12_garbagePart 0 = .ok (.aload_n 0, 1) := by decide +kernel
theorem dX12_garbagePart_1 : decode cX12_garbagePart 1 = .ok (.iconst 0, 1) := by decide +kernel
theorem dX12_garbagePart_2 : decode cX12_garbagePart 2 = .ok (.putfield 58, 3) := by decide +kernel
theorem dX12_garbagePart_5 : decode cX12_garbagePart 5 = .ok (.aload_n 0, 1) := by decide +kernel
theorem dX12_garbagePart_6 : decode cX12_garbagePart 6 = .ok (.invokevirtual 177, 3) := by decide +kernel
theorem dX12_garbagePart_9 : decode cX12_garbagePart 9 = .ok (.istore_n 1, 1) := by decide +kernel
theorem dX12_garbagePart_10 : decode cX12_garbagePart 10 = .ok (.aload_n 0, 1) := by decide +kernel
theorem dX12_garbagePart_11 : decode cX12_garbagePart 11 = .ok (.invokevirtual 349, 3) := by decide +kernel
theorem dX12_garbagePart_14 : decode cX12_garbagePart 14 = .ok (.istore_n 2, 1) := by decide +kernel
theorem dX12_garbagePart_15 : decode cX12_garbagePart 15 = .ok (.iload_n 2, 1) := by decide +kernel
theorem dX12_garbagePart_16 : decode cX12_garbagePart 16 = .ok (.ifCond .ne 7, 3) := by decide +kernel
theorem dX12_garbagePart_19 : decode cX12_garbagePart 19 = .ok (.fconst 0, 1) := by decide +kernel
theorem dX12_garbagePart_20 : decode cX12_garbagePart 20 = .ok (.goto 8, 3) := by decide +kernel
theorem dX12_garbagePart_23 : decode cX12_garbagePart 23 = .ok (.iload_n 1, 1) := by decide +kernel
theorem dX12_garbagePart_24 : decode cX12_garbagePart 24 = .ok (.i2f, 1) := by decide +kernel
theorem dX12_garbagePart_25 : decode cX12_garbagePart 25 = .ok (.iload_n 2, 1) := by decide +kernel
theorem dX12_garbagePart_26 : decode cX12_garbagePart 26 = .ok (.i2f, 1) := by decide +kernel
theorem dX12_garbagePart_27 : decode cX12_garbagePart 27 = .ok (.fdiv, 1) := by decide +kernel
theorem dX12_garbagePart_28 : decode cX12_garbagePart 28 = .ok (.freturn, 1) := by decide +kernel
theorem dX12_isTreeWhole_0 : decode cX12_isTreeWhole 0 = .ok (.aload_n 0, 1) := by decide +kernel
theorem dX12_isTreeWhole_1 : decode cX12_isTreeWhole 1 = .ok (.iload_n 1, 1) := by decide +kernel
theorem dX12_isTreeWhole_2 : decode cX12_isTreeWhole 2 = .ok (.invokevirtual 171, 3) := by decide +kernel
theorem dX12_isTreeWhole_5 : decode cX12_isTreeWhole 5 = .ok (.ifCond .eq 34, 3) := by decide +kernel
theorem dX12_isTreeWhole_8 : decode cX12_isTreeWhole 8 = .ok (.aload_n 0, 1) := by decide +kernel
theorem dX12_isTreeWhole_9 : decode cX12_isTreeWhole 9 = .ok (.iload_n 1, 1) := by decide +kernel
theorem dX12_isTreeWhole_10 : decode cX12_isTreeWhole 10 = .ok (.invokevirtual 90, 3) := by decide +kernel
theorem dX12_isTreeWhole_13 : decode cX12_isTreeWhole 13 = .ok (.iload_n 2, 1) := by decide +kernel
theorem dX12_isTreeWhole_14 : decode cX12_isTreeWhole 14 = .ok (.iconst 1, 1) := by decide +kernel
theorem dX12_isTreeWhole_15 : decode cX12_isTreeWhole 15 = .ok (.if_icmp .ne 7, 3) := by decide +kernel
theorem dX12_isTreeWhole_18 : decode cX12_isTreeWhole 18 = .ok (.iconst 1, 1) := by decide +kernel
theorem dX12_isTreeWhole_19 : decode cX12_isTreeWhole 19 = .ok (.goto 4, 3) := by decide +kernel
theorem dX12_isTreeWhole_22 : decode cX12_isTreeWhole 22 = .ok (.iconst 0, 1) := by decide +kernel
theorem dX12_isTreeWhole_23 : decode cX12_isTreeWhole 23 = .ok (.if_icmp .ne 16, 3) := by decide +kernel
theorem dX12_isTreeWhole_26 : decode cX12_isTreeWhole 26 = .ok (.iload_n 3, 1) := by decide +kernel
theorem dX12_isTreeWhole_27 : decode cX12_isTreeWhole 27 = .ok (.ifCond .ne 14, 3) := by decide +kernel
theorem dX12_isTreeWhole_30 : decode cX12_isTreeWhole 30 = .ok (.aload_n 0, 1) := by decide +kernel
theorem dX12_isTreeWhole_31 : decode cX12_isTreeWhole 31 = .ok (.iload_n 1, 1) := by decide +kernel
theorem dX12_isTreeWhole_32 : decode cX12_isTreeWhole 32 = .ok (.invokevirtual 79, 3) := by decide +kernel
theorem dX12_isTreeWhole_35 : decode cX12_isTreeWhole 35 = .ok (.iconst 4, 1) := by decide +kernel
theorem dX12_isTreeWhole_36 : decode cX12_isTreeWhole 36 = .ok (.if_icmp .ge 5, 3) := by decide +kernel
theorem dX12_isTreeWhole_39 : decode cX12_isTreeWhole 39 = .ok (.iconst 0, 1) := by decide +kernel
theorem dX12_isTreeWhole_40 : decode cX12_isTreeWhole 40 = .ok (.ireturn, 1) := by decide +kernel
theorem dX12_isTreeWhole_41 : decode cX12_isTreeWhole 41 = .ok (.iconst 0, 1) := by decide +kernel
theorem dX12_isTreeWhole_42 : decode cX12_isTreeWhole 42 = .ok (.istore 4, 2) := by decide +kernel
theorem dX12_isTreeWhole_44 : decode cX12_isTreeWhole 44 = .ok (.iload 4, 2) := by decide +kernel
theorem dX12_isTreeWhole_46 : decode cX12_isTreeWhole 46 = .ok (.aload_n 0, 1) := by decide +kernel
theorem dX12_isTreeWhole_47 : decode cX12_isTreeWhole 47 = .ok (.iload_n 1, 1) := by decide +kernel
theorem dX12_isTreeWhole_48 : decode cX12_isTreeWhole 48 = .ok (.invokevirtual 79, 3) := by decide +kernel
theorem dX12_isTreeWhole_51 : decode cX12_isTreeWhole 51 = .ok (.if_icmp .ge 83, 3) := by decide +kernel
theorem dX12_isTreeWhole_54 : decode cX12_isTreeWhole 54 = .ok (.iload_n 2, 1) := by decide +kernel
theorem dX12_isTreeWhole_55 : decode cX12_isTreeWhole 55 = .ok (.iconst 1, 1) := by decide +kernel
theorem dX12_isTreeWhole_56 : decode cX12_isTreeWhole 56 = .ok (.if_icmp .ne 32, 3) := by decide +kernel
theorem dX12_isTreeWhole_59 : decode cX12_isTreeWhole 59 = .ok (.aload_n 0, 1) := by decide +kernel
theorem dX12_isTreeWhole_60 : decode cX12_isTreeWhole 60 = .ok (.getfield 46, 3) := by decide +kernel
theorem dX12_isTreeWhole_63 : decode cX12_isTreeWhole 63 = .ok (.aload_n 0, 1) := by decide +kernel
theorem dX12_isTreeWhole_64 : decode cX12_isTreeWhole 64 = .ok (.getfield 383, 3) := by decide +kernel
theorem dX12_isTreeWhole_67 : decode cX12_isTreeWhole 67 = .ok (.aload_n 0, 1) := by decide +kernel
theorem dX12_isTreeWhole_68 : decode cX12_isTreeWhole 68 = .ok (.iload_n 1, 1) := by decide +kernel
theorem dX12_isTreeWhole_69 : decode cX12_isTreeWhole 69 = .ok (.iload 4, 2) := by decide +kernel
theorem dX12_isTreeWhole_71 : decode cX12_isTreeWhole 71 = .ok (.invokevirtual 71, 3) := by decide +kernel
theorem dX12_isTreeWhole_74 : decode cX12_isTreeWhole 74 = .ok (.iastore, 1) := by decide +kernel
theorem dX12_isTreeWhole_75 : decode cX12_isTreeWhole 75 = .ok (.aload_n 0, 1) := by decide +kernel
theorem dX12_isTreeWhole_76 : decode cX12_isTreeWhole 76 = .ok (.dup, 1) := by decide +kernel
theorem dX12_isTreeWhole_77 : decode cX12_isTreeWhole 77 = .ok (.getfield 383, 3) := by decide +kernel
theorem dX12_isTreeWhole_80 : decode cX12_isTreeWhole 80 = .ok (.iconst 1, 1) := by decide +kernel
theorem dX12_isTreeWhole_81 : decode cX12_isTreeWhole 81 = .ok (.iadd, 1) := by decide +kernel
theorem dX12_isTreeWhole_82 : decode cX12_isTreeWhole 82 = .ok (.putfield 383, 3) := by decide +kernel
theorem dX12_isTreeWhole_85 : decode cX12_isTreeWhole 85 = .ok (.goto 43, 3) := by decide +kernel
theorem dX12_isTreeWhole_88 : decode cX12_isTreeWhole 88 = .ok (.aload_n 0, 1) := by decide +kernel
theorem dX12_isTreeWhole_89 : decode cX12_isTreeWhole 89 = .ok (.aload_n 0, 1) := by decide +kernel
theorem dX12_isTreeWhole_90 : decode cX12_isTreeWhole 90 = .ok (.iload_n 1, 1) := by decide +kernel
theorem dX12_isTreeWhole_91 : decode cX12_isTreeWhole 91 = .ok (.iload 4, 2) := by decide +kernel
theorem dX12_isTreeWhole_93 : decode cX12_isTreeWhole 93 = .ok (.invokevirtual 71, 3) := by decide +kernel
theorem dX12_isTreeWhole_96 : decode cX12_isTreeWhole 96 = .ok (.iload_n 2, 1) := by decide +kernel
theorem dX12_isTreeWhole_97 : decode cX12_isTreeWhole 97 = .ok (.iconst 1, 1) := by decide +kernel
theorem dX12_isTreeWhole_98 : decode cX12_isTreeWhole 98 = .ok (.isub, 1) := by decide +kernel
theorem dX12_isTreeWhole_99 : decode cX12_isTreeWhole 99 = .ok (.iload_n 3, 1) := by decide +kernel
theorem dX12_isTreeWhole_100 : decode cX12_isTreeWhole 100 = .ok (.ifCond .eq 19, 3) := by decide +kernel
theorem dX12_isTreeWhole_103 : decode cX12_isTreeWhole 103 = .ok (.iload 4, 2) := by decide +kernel
theorem dX12_isTreeWhole_105 : decode cX12_isTreeWhole 105 = .ok (.aload_n 0, 1) := by decide +kernel
theorem dX12_isTreeWhole_106 : decode cX12_isTreeWhole 106 = .ok (.iload_n 1, 1) := by decide +kernel
theorem dX12_isTreeWhole_107 : decode cX12_isTreeWhole 107 = .ok (.invokevirtual 79, 3) := by decide +kernel
theorem dX12_isTreeWhole_110 : decode cX12_isTreeWhole 110 = .ok (.iconst 1, 1) := by decide +kernel
theorem dX12_isTreeWhole_111 : decode cX12_isTreeWhole 111 = .ok (.isub, 1) := by decide +kernel
theorem dX12_isTreeWhole_112 : decode cX12_isTreeWhole 112 = .ok (.if_icmp .ne 7, 3) := by decide +kernel
theorem dX12_isTreeWhole_115 : decode cX12_isTreeWhole 115 = .ok (.iconst 1, 1) := by decide +kernel
theorem dX12_isTreeWhole_116 : decode cX12_isTreeWhole 116 = .ok (.goto 4, 3) := by decide +kernel
theorem dX12_isTreeWhole_119 : decode cX12_isTreeWhole 119 = .ok (.iconst 0, 1) := by decide +kernel
theorem dX12_isTreeWhole_120 : decode cX12_isTreeWhole 120 = .ok (.invokevirtual 386, 3) := by decide +kernel
theorem dX12_isTreeWhole_123 : decode cX12_isTreeWhole 123 = .ok (.ifCond .ne 5, 3) := by decide +kernel
theorem dX12_isTreeWhole_126 : decode cX12_isTreeWhole 126 = .ok (.iconst 0, 1) := by decide +kernel
theorem dX12_isTreeWhole_127 : decode cX12_isTreeWhole 127 = .ok (.ireturn, 1) := by decide +kernel
theorem dX12_isTreeWhole_128 : decode cX12_isTreeWhole 128 = .ok (.iinc 4 1, 3) := by decide +kernel
theorem dX12_isTreeWhole_131 : decode cX12_isTreeWhole 131 = .ok (.goto (-87), 3) := by decide +kernel
theorem dX12_isTreeWhole_134 : decode cX12_isTreeWhole 134 = .ok (.iconst 1, 1) := by decide +kernel
theorem dX12_isTreeWhole_135 : decode cX12_isTreeWhole 135 = .ok (.ireturn, 1) := by decide +kernel
theorem dX12_isVersionConsistent_0 : decode cX12_isVersionConsistent 0 = .ok (.aload_n 0, 1) := by decide +kernel
theorem dX12_isVersionConsistent_1 : decode cX12_isVersionConsistent 1 = .ok (.iconst 0, 1) := by decide +kernel
theorem dX12_isVersionConsistent_2 : decode cX12_isVersionConsistent 2 = .ok (.putfield 383, 3) := by decide +kernel
theorem dX12_isVersionConsistent_5 : decode cX12_isVersionConsistent 5 = .ok (.aload_n 0, 1) := by decide +kernel
theorem dX12_isVersionConsistent_6 : decode cX12_isVersionConsistent 6 = .ok (.iload_n 1, 1) := by decide +kernel
theorem dX12_isVersionConsistent_7 : decode cX12_isVersionConsistent 7 = .ok (.invokevirtual 145, 3) := by decide +kernel
theorem dX12_isVersionConsistent_10 : decode cX12_isVersionConsistent 10 = .ok (.istore_n 2, 1) := by decide +kernel
theorem dX12_isVersionConsistent_11 : decode cX12_isVersionConsistent 11 = .ok (.iload_n 2, 1) := by decide +kernel
theorem dX12_isVersionConsistent_12 : decode cX12_isVersionConsistent 12 = .ok (.iconst (-1), 1) := by decide +kernel
theorem dX12_isVersionConsistent_13 : decode cX12_isVersionConsistent 13 = .ok (.if_icmp .ne 17, 3) := by decide +kernel
theorem dX12_isVersionConsistent_16 : decode cX12_isVersionConsistent 16 = .ok (.aload_n 0, 1) := by decide +kernel
theorem dX12_isVersionConsistent_17 : decode cX12_isVersionConsistent 17 = .ok (.iload_n 1, 1) := by decide +kernel
theorem dX12_isVersionConsistent_18 : decode cX12_isVersionConsistent 18 = .ok (.invokevirtual 121, 3) := by decide +kernel
theorem dX12_isVersionConsistent_21 : decode cX12_isVersionConsistent 21 = .ok (.ifCond .ne 7, 3) := by decide +kernel
theorem dX12_isVersionConsistent_24 : decode cX12_isVersionConsistent 24 = .ok (.iconst 1, 1) := by decide +kernel
theorem dX12_isVersionConsistent_25 : decode cX12_isVersionConsistent 25 = .ok (.goto 4, 3) := by decide +kernel
theorem dX12_isVersionConsistent_28 : decode cX12_isVersionConsistent 28 = .ok (.iconst 0, 1) := by decide +kernel
theorem dX12_isVersionConsistent_29 : decode cX12_isVersionConsistent 29 = .ok (.ireturn, 1) := by decide +kernel
theorem dX12_isVersionConsistent_30 : decode cX12_isVersionConsistent 30 = .ok (.aload_n 0, 1) := by decide +kernel
theorem dX12_isVersionConsistent_31 : decode cX12_isVersionConsistent 31 = .ok (.iload_n 2, 1) := by decide +kernel
theorem dX12_isVersionConsistent_32 : decode cX12_isVersionConsistent 32 = .ok (.aload_n 0, 1) := by decide +kernel
theorem dX12_isVersionConsistent_33 : decode cX12_isVersionConsistent 33 = .ok (.iload_n 1, 1) := by decide +kernel
theorem dX12_isVersionConsistent_34 : decode cX12_isVersionConsistent 34 = .ok (.invokevirtual 148, 3) := by decide +kernel
theorem dX12_isVersionConsistent_37 : decode cX12_isVersionConsistent 37 = .ok (.iconst 1, 1) := by decide +kernel
theorem dX12_isVersionConsistent_38 : decode cX12_isVersionConsistent 38 = .ok (.invokevirtual 386, 3) := by decide +kernel
theorem dX12_isVersionConsistent_41 : decode cX12_isVersionConsistent 41 = .ok (.ifCond .eq 15, 3) := by decide +kernel
theorem dX12_isVersionConsistent_44 : decode cX12_isVersionConsistent 44 = .ok (.aload_n 0, 1) := by decide +kernel
theorem dX12_isVersionConsistent_45 : decode cX12_isVersionConsistent 45 = .ok (.getfield 383, 3) := by decide +kernel
theorem dX12_isVersionConsistent_48 : decode cX12_isVersionConsistent 48 = .ok (.aload_n 0, 1) := by decide +kernel
theorem dX12_isVersionConsistent_49 : decode cX12_isVersionConsistent 49 = .ok (.iload_n 1, 1) := by decide +kernel
theorem dX12_isVersionConsistent_50 : decode cX12_isVersionConsistent 50 = .ok (.invokevirtual 121, 3) := by decide +kernel
theorem dX12_isVersionConsistent_53 : decode cX12_isVersionConsistent 53 = .ok (.if_icmp .eq 5, 3) := by decide +kernel
theorem dX12_isVersionConsistent_56 : decode cX12_isVersionConsistent 56 = .ok (.iconst 0, 1) := by decide +kernel
theorem dX12_isVersionConsistent_57 : decode cX12_isVersionConsistent 57 = .ok (.ireturn, 1) := by decide +kernel
theorem dX12_isVersionConsistent_58 : decode cX12_isVersionConsistent 58 = .ok (.iconst 0, 1) := by decide +kernel
theorem dX12_isVersionConsistent_59 : decode cX12_isVersionConsistent 59 = .ok (.istore_n 3, 1) := by decide +kernel
theorem dX12_isVersionConsistent_60 : decode cX12_isVersionConsistent 60 = .ok (.iload_n 3, 1) := by decide +kernel
theorem dX12_isVersionConsistent_61 : decode cX12_isVersionConsistent 61 = .ok (.aload_n 0, 1) := by decide +kernel
theorem dX12_isVersionConsistent_62 : decode cX12_isVersionConsistent 62 = .ok (.getfield 383, 3) := by decide +kernel
theorem dX12_isVersionConsistent_65 : decode cX12_isVersionConsistent 65 = .ok (.if_icmp .ge 26, 3) := by decide +kernel
theorem dX12_isVersionConsistent_68 : decode cX12_isVersionConsistent 68 = .ok (.aload_n 0, 1) := by decide +kernel
theorem dX12_isVersionConsistent_69 : decode cX12_isVersionConsistent 69 = .ok (.getfield 46, 3) := by decide +kernel
theorem dX12_isVersionConsistent_72 : decode cX12_isVersionConsistent 72 = .ok (.iload_n 3, 1) := by decide +kernel
theorem dX12_isVersionConsistent_73 : decode cX12_isVersionConsistent 73 = .ok (.iaload, 1) := by decide +kernel
theorem dX12_isVersionConsistent_74 : decode cX12_isVersionConsistent 74 = .ok (.aload_n 0, 1) := by decide +kernel
theorem dX12_isVersionConsistent_75 : decode cX12_isVersionConsistent 75 = .ok (.iload_n 1, 1) := by decide +kernel
theorem dX12_isVersionConsistent_76 : decode cX12_isVersionConsistent 76 = .ok (.iload_n 3, 1) := by decide +kernel
theorem dX12_isVersionConsistent_77 : decode cX12_isVersionConsistent 77 = .ok (.invokevirtual 129, 3) := by decide +kernel
theorem dX12_isVersionConsistent_80 : decode cX12_isVersionConsistent 80 = .ok (.if_icmp .eq 5, 3) := by decide +kernel
theorem dX12_isVersionConsistent_83 : decode cX12_isVersionConsistent 83 = .ok (.iconst 0, 1) := by decide +kernel
theorem dX12_isVersionConsistent_84 : decode cX12_isVersionConsistent 84 = .ok (.ireturn, 1) := by decide +kernel
theorem dX12_isVersionConsistent_85 : decode cX12_isVersionConsistent 85 = .ok (.iinc 3 1, 3) := by decide +kernel
theorem dX12_isVersionConsistent_88 : decode cX12_isVersionConsistent 88 = .ok (.goto (-28), 3) := by decide +kernel
theorem dX12_isVersionConsistent_91 : decode cX12_isVersionConsistent 91 = .ok (.iconst 1, 1) := by decide +kernel
theorem dX12_isVersionConsistent_92 : decode cX12_isVersionConsistent 92 = .ok (.ireturn, 1) := by decide +kernel
theorem dX12_isRoot_0 : decode cX12_isRoot 0 = .ok (.iconst 0, 1) := by decide +kernel
theorem dX12_isRoot_1 : decode cX12_isRoot 1 = .ok (.istore_n 2, 1) := by decide +kernel
theorem dX12_isRoot_2 : decode cX12_isRoot 2 = .ok (.iload_n 2, 1) := by decide +kernel
theorem dX12_isRoot_3 : decode cX12_isRoot 3 = .ok (.aload_n 0, 1) := by decide +kernel
theorem dX12_isRoot_4 : decode cX12_isRoot 4 = .ok (.getfield 9, 3) := by decide +kernel
theorem dX12_isRoot_7 : decode cX12_isRoot 7 = .ok (.iconst 0, 1) := by decide +kernel
theorem dX12_isRoot_8 : decode cX12_isRoot 8 = .ok (.iaload, 1) := by decide +kernel
theorem dX12_isRoot_9 : decode cX12_isRoot 9 = .ok (.if_icmp .ge 28, 3) := by decide +kernel
theorem dX12_isRoot_12 : decode cX12_isRoot 12 = .ok (.aload_n 0, 1) := by decide +kernel
theorem dX12_isRoot_13 : decode cX12_isRoot 13 = .ok (.iload_n 2, 1) := by decide +kernel
theorem dX12_isRoot_14 : decode cX12_isRoot 14 = .ok (.invokevirtual 164, 3) := by decide +kernel
theorem dX12_isRoot_17 : decode cX12_isRoot 17 = .ok (.ifCond .ne 14, 3) := by decide +kernel
theorem dX12_isRoot_20 : decode cX12_isRoot 20 = .ok (.aload_n 0, 1) := by decide +kernel
theorem dX12_isRoot_21 : decode cX12_isRoot 21 = .ok (.iload_n 2, 1) := by decide +kernel
theorem dX12_isRoot_22 : decode cX12_isRoot 22 = .ok (.invokevirtual 145, 3) := by decide +kernel
theorem dX12_isRoot_25 : decode cX12_isRoot 25 = .ok (.iload_n 1, 1) := by decide +kernel
theorem dX12_isRoot_26 : decode cX12_isRoot 26 = .ok (.if_icmp .ne 5, 3) := by decide +kernel
theorem dX12_isRoot_29 : decode cX12_isRoot 29 = .ok (.iconst 1, 1) := by decide +kernel
theorem dX12_isRoot_30 : decode cX12_isRoot 30 = .ok (.ireturn, 1) := by decide +kernel
theorem dX12_isRoot_31 : decode cX12_isRoot 31 = .ok (.iinc 2 1, 3) := by decide +kernel
theorem dX12_isRoot_34 : decode cX12_isRoot 34 = .ok (.goto (-32), 3) := by decide +kernel
theorem dX12_isRoot_37 : decode cX12_isRoot 37 = .ok (.iconst 0, 1) := by decide +kernel
theorem dX12_isRoot_38 : decode cX12_isRoot 38 = .ok (.ireturn, 1) := by decide +kernel
theorem dX12_isHeld_0 : decode cX12_isHeld 0 = .ok (.aload_n 0, 1) := by decide +kernel
theorem dX12_isHeld_1 : decode cX12_isHeld 1 = .ok (.iload_n 1, 1) := by decide +kernel
theorem dX12_isHeld_2 : decode cX12_isHeld 2 = .ok (.invokevirtual 390, 3) := by decide +kernel
theorem dX12_isHeld_5 : decode cX12_isHeld 5 = .ok (.ifCond .eq 5, 3) := by decide +kernel
theorem dX12_isHeld_8 : decode cX12_isHeld 8 = .ok (.iconst 1, 1) := by decide +kernel
theorem dX12_isHeld_9 : decode cX12_isHeld 9 = .ok (.ireturn, 1) := by decide +kernel
theorem dX12_isHeld_10 : decode cX12_isHeld 10 = .ok (.iconst 0, 1) := by decide +kernel
theorem dX12_isHeld_11 : decode cX12_isHeld 11 = .ok (.istore_n 2, 1) := by decide +kernel
theorem dX12_isHeld_12 : decode cX12_isHeld 12 = .ok (.iload_n 2, 1) := by decide +kernel
theorem dX12_isHeld_13 : decode cX12_isHeld 13 = .ok (.aload_n 0, 1) := by decide +kernel
theorem dX12_isHeld_14 : decode cX12_isHeld 14 = .ok (.getfield 9, 3) := by decide +kernel
theorem dX12_isHeld_17 : decode cX12_isHeld 17 = .ok (.iconst 1, 1) := by decide +kernel
theorem dX12_isHeld_18 : decode cX12_isHeld 18 = .ok (.iaload, 1) := by decide +kernel
theorem dX12_isHeld_19 : decode cX12_isHeld 19 = .ok (.if_icmp .ge 28, 3) := by decide +kernel
theorem dX12_isHeld_22 : decode cX12_isHeld 22 = .ok (.aload_n 0, 1) := by decide +kernel
theorem dX12_isHeld_23 : decode cX12_isHeld 23 = .ok (.iload_n 2, 1) := by decide +kernel
theorem dX12_isHeld_24 : decode cX12_isHeld 24 = .ok (.iload_n 1, 1) := by decide +kernel
theorem dX12_isHeld_25 : decode cX12_isHeld 25 = .ok (.invokevirtual 370, 3) := by decide +kernel
theorem dX12_isHeld_28 : decode cX12_isHeld 28 = .ok (.ifCond .eq 13, 3) := by decide +kernel
theorem dX12_isHeld_31 : decode cX12_isHeld 31 = .ok (.aload_n 0, 1) := by decide +kernel
theorem dX12_isHeld_32 : decode cX12_isHeld 32 = .ok (.iload_n 2, 1) := by decide +kernel
theorem dX12_isHeld_33 : decode cX12_isHeld 33 = .ok (.invokevirtual 393, 3) := by decide +kernel
theorem dX12_isHeld_36 : decode cX12_isHeld 36 = .ok (.ifCond .eq 5, 3) := by decide +kernel
theorem dX12_isHeld_39 : decode cX12_isHeld 39 = .ok (.iconst 1, 1) := by decide +kernel
theorem dX12_isHeld_40 : decode cX12_isHeld 40 = .ok (.ireturn, 1) := by decide +kernel
theorem dX12_isHeld_41 : decode cX12_isHeld 41 = .ok (.iinc 2 1, 3) := by decide +kernel
theorem dX12_isHeld_44 : decode cX12_isHeld 44 = .ok (.goto (-32), 3) := by decide +kernel
theorem dX12_isHeld_47 : decode cX12_isHeld 47 = .ok (.iconst 0, 1) := by decide +kernel
theorem dX12_isHeld_48 : decode cX12_isHeld 48 = .ok (.ireturn, 1) := by decide +kernel
theorem dX12_areNodesConsistent_0 : decode cX12_areNodesConsistent 0 = .ok (.aload_n 0, 1) := by decide +kernel
theorem dX12_areNodesConsistent_1 : decode cX12_areNodesConsistent 1 = .ok (.invokevirtual 174, 3) := by decide +kernel
theorem dX12_areNodesConsistent_4 : decode cX12_areNodesConsistent 4 = .ok (.iconst 0, 1) := by decide +kernel
theorem dX12_areNodesConsistent_5 : decode cX12_areNodesConsistent 5 = .ok (.istore_n 1, 1) := by decide +kernel
theorem dX12_areNodesConsistent_6 : decode cX12_areNodesConsistent 6 = .ok (.iload_n 1, 1) := by decide +kernel
theorem dX12_areNodesConsistent_7 : decode cX12_areNodesConsistent 7 = .ok (.aload_n 0, 1) := by decide +kernel
theorem dX12_areNodesConsistent_8 : decode cX12_areNodesConsistent 8 = .ok (.getfield 9, 3) := by decide +kernel
theorem dX12_areNodesConsistent_11 : decode cX12_areNodesConsistent 11 = .ok (.iconst 1, 1) := by decide +kernel
theorem dX12_areNodesConsistent_12 : decode cX12_areNodesConsistent 12 = .ok (.iaload, 1) := by decide +kernel
theorem dX12_areNodesConsistent_13 : decode cX12_areNodesConsistent 13 = .ok (.if_icmp .ge 51, 3) := by decide +kernel
theorem dX12_areNodesConsistent_16 : decode cX12_areNodesConsistent 16 = .ok (.aload_n 0, 1) := by decide +kernel
theorem dX12_areNodesConsistent_17 : decode cX12_areNodesConsistent 17 = .ok (.getfield 32, 3) := by decide +kernel
theorem dX12_areNodesConsistent_20 : decode cX12_areNodesConsistent 20 = .ok (.iload_n 1, 1) := by decide +kernel
theorem dX12_areNodesConsistent_21 : decode cX12_areNodesConsistent 21 = .ok (.iaload, 1) := by decide +kernel
theorem dX12_areNodesConsistent_22 : decode cX12_areNodesConsistent 22 = .ok (.ifCond .le 7, 3) := by decide +kernel
theorem dX12_areNodesConsistent_25 : decode cX12_areNodesConsistent 25 = .ok (.iconst 1, 1) := by decide +kernel
theorem dX12_areNodesConsistent_26 : decode cX12_areNodesConsistent 26 = .ok (.goto 4, 3) := by decide +kernel
theorem dX12_areNodesConsistent_29 : decode cX12_areNodesConsistent 29 = .ok (.iconst 0, 1) := by decide +kernel
theorem dX12_areNodesConsistent_30 : decode cX12_areNodesConsistent 30 = .ok (.istore_n 2, 1) := by decide +kernel
theorem dX12_areNodesConsistent_31 : decode cX12_areNodesConsistent 31 = .ok (.iload_n 2, 1) := by decide +kernel
theorem dX12_areNodesConsistent_32 : decode cX12_areNodesConsistent 32 = .ok (.aload_n 0, 1) := by decide +kernel
theorem dX12_areNodesConsistent_33 : decode cX12_areNodesConsistent 33 = .ok (.iload_n 1, 1) := by decide +kernel
theorem dX12_areNodesConsistent_34 : decode cX12_areNodesConsistent 34 = .ok (.invokevirtual 171, 3) := by decide +kernel
theorem dX12_areNodesConsistent_37 : decode cX12_areNodesConsistent 37 = .ok (.ifCond .eq 15, 3) := by decide +kernel
theorem dX12_areNodesConsistent_40 : decode cX12_areNodesConsistent 40 = .ok (.aload_n 0, 1) := by decide +kernel
theorem dX12_areNodesConsistent_41 : decode cX12_areNodesConsistent 41 = .ok (.iload_n 1, 1) := by decide +kernel
theorem dX12_areNodesConsistent_42 : decode cX12_areNodesConsistent 42 = .ok (.invokevirtual 393, 3) := by decide +kernel
theorem dX12_areNodesConsistent_45 : decode cX12_areNodesConsistent 45 = .ok (.ifCond .eq 7, 3) := by decide +kernel
theorem dX12_areNodesConsistent_48 : decode cX12_areNodesConsistent 48 = .ok (.iconst 1, 1) := by decide +kernel
theorem dX12_areNodesConsistent_49 : decode cX12_areNodesConsistent 49 = .ok (.goto 4, 3) := by decide +kernel
theorem dX12_areNodesConsistent_52 : decode cX12_areNodesConsistent 52 = .ok (.iconst 0, 1) := by decide +kernel
theorem dX12_areNodesConsistent_53 : decode cX12_areNodesConsistent 53 = .ok (.if_icmp .eq 5, 3) := by decide +kernel
theorem dX12_areNodesConsistent_56 : decode cX12_areNodesConsistent 56 = .ok (.iconst 0, 1) := by decide +kernel
theorem dX12_areNodesConsistent_57 : decode cX12_areNodesConsistent 57 = .ok (.ireturn, 1) := by decide +kernel
theorem dX12_areNodesConsistent_58 : decode cX12_areNodesConsistent 58 = .ok (.iinc 1 1, 3) := by decide +kernel
theorem dX12_areNodesConsistent_61 : decode cX12_areNodesConsistent 61 = .ok (.goto (-55), 3) := by decide +kernel
theorem dX12_areNodesConsistent_64 : decode cX12_areNodesConsistent 64 = .ok (.iconst 1, 1) := by decide +kernel
theorem dX12_areNodesConsistent_65 : decode cX12_areNodesConsistent 65 = .ok (.ireturn, 1) := by decide +kernel
theorem dX12_isConsistent_0 : decode cX12_isConsistent 0 = .ok (.aload_n 0, 1) := by decide +kernel
theorem dX12_isConsistent_1 : decode cX12_isConsistent 1 = .ok (.iconst 0, 1) := by decide +kernel
theorem dX12_isConsistent_2 : decode cX12_isConsistent 2 = .ok (.putfield 58, 3) := by decide +kernel
theorem dX12_isConsistent_5 : decode cX12_isConsistent 5 = .ok (.iconst 0, 1) := by decide +kernel
theorem dX12_isConsistent_6 : decode cX12_isConsistent 6 = .ok (.istore_n 1, 1) := by decide +kernel
theorem dX12_isConsistent_7 : decode cX12_isConsistent 7 = .ok (.iconst 0, 1) := by decide +kernel
theorem dX12_isConsistent_8 : decode cX12_isConsistent 8 = .ok (.istore_n 2, 1) := by decide +kernel
theorem dX12_isConsistent_9 : decode cX12_isConsistent 9 = .ok (.iload_n 2, 1) := by decide +kernel
theorem dX12_isConsistent_10 : decode cX12_isConsistent 10 = .ok (.aload_n 0, 1) := by decide +kernel
theorem dX12_isConsistent_11 : decode cX12_isConsistent 11 = .ok (.getfield 9, 3) := by decide +kernel
theorem dX12_isConsistent_14 : decode cX12_isConsistent 14 = .ok (.iconst 0, 1) := by decide +kernel
theorem dX12_isConsistent_15 : decode cX12_isConsistent 15 = .ok (.iaload, 1) := by decide +kernel
theorem dX12_isConsistent_16 : decode cX12_isConsistent 16 = .ok (.if_icmp .ge 41, 3) := by decide +kernel
theorem dX12_isConsistent_19 : decode cX12_isConsistent 19 = .ok (.iload_n 1, 1) := by decide +kernel
theorem dX12_isConsistent_20 : decode cX12_isConsistent 20 = .ok (.aload_n 0, 1) := by decide +kernel
theorem dX12_isConsistent_21 : decode cX12_isConsistent 21 = .ok (.getfield 9, 3) := by decide +kernel
theorem dX12_isConsistent_24 : decode cX12_isConsistent 24 = .ok (.iload_n 2, 1) := by decide +kernel
theorem dX12_isConsistent_25 : decode cX12_isConsistent 25 = .ok (.invokestatic 112, 3) := by decide +kernel
theorem dX12_isConsistent_28 : decode cX12_isConsistent 28 = .ok (.iconst 5, 1) := by decide +kernel
theorem dX12_isConsistent_29 : decode cX12_isConsistent 29 = .ok (.iadd, 1) := by decide +kernel
theorem dX12_isConsistent_30 : decode cX12_isConsistent 30 = .ok (.iaload, 1) := by decide +kernel
theorem dX12_isConsistent_31 : decode cX12_isConsistent 31 = .ok (.iadd, 1) := by decide +kernel
theorem dX12_isConsistent_32 : decode cX12_isConsistent 32 = .ok (.istore_n 1, 1) := by decide +kernel
theorem dX12_isConsistent_33 : decode cX12_isConsistent 33 = .ok (.aload_n 0, 1) := by decide +kernel
theorem dX12_isConsistent_34 : decode cX12_isConsistent 34 = .ok (.iload_n 2, 1) := by decide +kernel
theorem dX12_isConsistent_35 : decode cX12_isConsistent 35 = .ok (.invokevirtual 164, 3) := by decide +kernel
theorem dX12_isConsistent_38 : decode cX12_isConsistent 38 = .ok (.ifCond .ne 13, 3) := by decide +kernel
theorem dX12_isConsistent_41 : decode cX12_isConsistent 41 = .ok (.aload_n 0, 1) := by decide +kernel
theorem dX12_isConsistent_42 : decode cX12_isConsistent 42 = .ok (.iload_n 2, 1) := by decide +kernel
theorem dX12_isConsistent_43 : decode cX12_isConsistent 43 = .ok (.invokevirtual 396, 3) := by decide +kernel
theorem dX12_isConsistent_46 : decode cX12_isConsistent 46 = .ok (.ifCond .ne 5, 3) := by decide +kernel
theorem dX12_isConsistent_49 : decode cX12_isConsistent 49 = .ok (.iconst 0, 1) := by decide +kernel
theorem dX12_isConsistent_50 : decode cX12_isConsistent 50 = .ok (.ireturn, 1) := by decide +kernel
theorem dX12_isConsistent_51 : decode cX12_isConsistent 51 = .ok (.iinc 2 1, 3) := by decide +kernel
theorem dX12_isConsistent_54 : decode cX12_isConsistent 54 = .ok (.goto (-45), 3) := by decide +kernel
theorem dX12_isConsistent_57 : decode cX12_isConsistent 57 = .ok (.iload_n 1, 1) := by decide +kernel
theorem dX12_isConsistent_58 : decode cX12_isConsistent 58 = .ok (.aload_n 0, 1) := by decide +kernel
theorem dX12_isConsistent_59 : decode cX12_isConsistent 59 = .ok (.getfield 9, 3) := by decide +kernel
theorem dX12_isConsistent_62 : decode cX12_isConsistent 62 = .ok (.iconst 1, 1) := by decide +kernel
theorem dX12_isConsistent_63 : decode cX12_isConsistent 63 = .ok (.iaload, 1) := by decide +kernel
theorem dX12_isConsistent_64 : decode cX12_isConsistent 64 = .ok (.if_icmp .ne 14, 3) := by decide +kernel
theorem dX12_isConsistent_67 : decode cX12_isConsistent 67 = .ok (.aload_n 0, 1) := by decide +kernel
theorem dX12_isConsistent_68 : decode cX12_isConsistent 68 = .ok (.invokevirtual 399, 3) := by decide +kernel
theorem dX12_isConsistent_71 : decode cX12_isConsistent 71 = .ok (.ifCond .eq 7, 3) := by decide +kernel
theorem dX12_isConsistent_74 : decode cX12_isConsistent 74 = .ok (.iconst 1, 1) := by decide +kernel
theorem dX12_isConsistent_75 : decode cX12_isConsistent 75 = .ok (.goto 4, 3) := by decide +kernel
theorem dX12_isConsistent_78 : decode cX12_isConsistent 78 = .ok (.iconst 0, 1) := by decide +kernel
theorem dX12_isConsistent_79 : decode cX12_isConsistent 79 = .ok (.ireturn, 1) := by decide +kernel
theorem dX12_set_0 : decode cX12_set 0 = .ok (.aload_n 0, 1) := by decide +kernel
theorem dX12_set_1 : decode cX12_set 1 = .ok (.iload_n 1, 1) := by decide +kernel
theorem dX12_set_2 : decode cX12_set 2 = .ok (.iload_n 2, 1) := by decide +kernel
theorem dX12_set_3 : decode cX12_set 3 = .ok (.invokevirtual 340, 3) := by decide +kernel
theorem dX12_set_6 : decode cX12_set 6 = .ok (.istore 4, 2) := by decide +kernel
theorem dX12_set_8 : decode cX12_set 8 = .ok (.iload_n 3, 1) := by decide +kernel
theorem dX12_set_9 : decode cX12_set 9 = .ok (.i2l, 1) := by decide +kernel
theorem dX12_set_10 : decode cX12_set 10 = .ok (.ldc2_w 379, 3) := by decide +kernel
theorem dX12_set_13 : decode cX12_set 13 = .ok (.ldc2_w 381, 3) := by decide +kernel
theorem dX12_set_16 : decode cX12_set 16 = .ok (.invokestatic 167, 3) := by decide +kernel
theorem dX12_set_19 : decode cX12_set 19 = .ok (.istore 5, 2) := by decide +kernel
theorem dX12_set_21 : decode cX12_set 21 = .ok (.aload_n 0, 1) := by decide +kernel
theorem dX12_set_22 : decode cX12_set 22 = .ok (.iload 4, 2) := by decide +kernel
theorem dX12_set_24 : decode cX12_set 24 = .ok (.iload 5, 2) := by decide +kernel
theorem dX12_set_26 : decode cX12_set 26 = .ok (.iload 4, 2) := by decide +kernel
theorem dX12_set_28 : decode cX12_set 28 = .ok (.ifCond .eq 27, 3) := by decide +kernel
theorem dX12_set_31 : decode cX12_set 31 = .ok (.iload 5, 2) := by decide +kernel
theorem dX12_set_33 : decode cX12_set 33 = .ok (.ifCond .eq 22, 3) := by decide +kernel
theorem dX12_set_36 : decode cX12_set 36 = .ok (.aload_n 0, 1) := by decide +kernel
theorem dX12_set_37 : decode cX12_set 37 = .ok (.iload_n 1, 1) := by decide +kernel
theorem dX12_set_38 : decode cX12_set 38 = .ok (.invokevirtual 164, 3) := by decide +kernel
theorem dX12_set_41 : decode cX12_set 41 = .ok (.ifCond .ne 14, 3) := by decide +kernel
theorem dX12_set_44 : decode cX12_set 44 = .ok (.aload_n 0, 1) := by decide +kernel
theorem dX12_set_45 : decode cX12_set 45 = .ok (.invokevirtual 291, 3) := by decide +kernel
theorem dX12_set_48 : decode cX12_set 48 = .ok (.ifCond .eq 7, 3) := by decide +kernel
theorem dX12_set_51 : decode cX12_set 51 = .ok (.iconst 1, 1) := by decide +kernel
theorem dX12_set_52 : decode cX12_set 52 = .ok (.goto 4, 3) := by decide +kernel
theorem dX12_set_55 : decode cX12_set 55 = .ok (.iconst 0, 1) := by decide +kernel
theorem dX12_set_56 : decode cX12_set 56 = .ok (.invokevirtual 330, 3) := by decide +kernel
theorem dX12_set_59 : decode cX12_set 59 = .ok (.ifCond .ne 5, 3) := by decide +kernel
theorem dX12_set_62 : decode cX12_set 62 = .ok (.iconst 0, 1) := by decide +kernel
theorem dX12_set_63 : decode cX12_set 63 = .ok (.ireturn, 1) := by decide +kernel
theorem dX12_set_64 : decode cX12_set 64 = .ok (.aload_n 0, 1) := by decide +kernel
theorem dX12_set_65 : decode cX12_set 65 = .ok (.invokevirtual 324, 3) := by decide +kernel
theorem dX12_set_68 : decode cX12_set 68 = .ok (.aload_n 0, 1) := by decide +kernel
theorem dX12_set_69 : decode cX12_set 69 = .ok (.iload_n 1, 1) := by decide +kernel
theorem dX12_set_70 : decode cX12_set 70 = .ok (.iload_n 2, 1) := by decide +kernel
theorem dX12_set_71 : decode cX12_set 71 = .ok (.iload_n 3, 1) := by decide +kernel
theorem dX12_set_72 : decode cX12_set 72 = .ok (.invokevirtual 295, 3) := by decide +kernel
theorem dX12_set_75 : decode cX12_set 75 = .ok (.ireturn, 1) := by decide +kernel
theorem dX12_append_0 : decode cX12_append 0 = .ok (.aload_n 0, 1) := by decide +kernel
theorem dX12_append_1 : decode cX12_append 1 = .ok (.iload_n 1, 1) := by decide +kernel
theorem dX12_append_2 : decode cX12_append 2 = .ok (.invokevirtual 285, 3) := by decide +kernel
theorem dX12_append_5 : decode cX12_append 5 = .ok (.istore_n 3, 1) := by decide +kernel
theorem dX12_append_6 : decode cX12_append 6 = .ok (.iload_n 2, 1) := by decide +kernel
theorem dX12_append_7 : decode cX12_append 7 = .ok (.i2l, 1) := by decide +kernel
theorem dX12_append_8 : decode cX12_append 8 = .ok (.ldc2_w 379, 3) := by decide +kernel
theorem dX12_append_11 : decode cX12_append 11 = .ok (.ldc2_w 381, 3) := by decide +kernel
theorem dX12_append_14 : decode cX12_append 14 = .ok (.invokestatic 167, 3) := by decide +kernel
theorem dX12_append_17 : decode cX12_append 17 = .ok (.istore 4, 2) := by decide +kernel
theorem dX12_append_19 : decode cX12_append 19 = .ok (.iload_n 3, 1) := by decide +kernel
theorem dX12_append_20 : decode cX12_append 20 = .ok (.ifCond .eq 32, 3) := by decide +kernel
theorem dX12_append_23 : decode cX12_append 23 = .ok (.aload_n 0, 1) := by decide +kernel
theorem dX12_append_24 : decode cX12_append 24 = .ok (.iload_n 1, 1) := by decide +kernel
theorem dX12_append_25 : decode cX12_append 25 = .ok (.invokevirtual 164, 3) := by decide +kernel
theorem dX12_append_28 : decode cX12_append 28 = .ok (.ifCond .ne 24, 3) := by decide +kernel
theorem dX12_append_31 : decode cX12_append 31 = .ok (.aload_n 0, 1) := by decide +kernel
theorem dX12_append_32 : decode cX12_append 32 = .ok (.iload_n 1, 1) := by decide +kernel
theorem dX12_append_33 : decode cX12_append 33 = .ok (.invokevirtual 121, 3) := by decide +kernel
theorem dX12_append_36 : decode cX12_append 36 = .ok (.bipush 64, 2) := by decide +kernel
theorem dX12_append_38 : decode cX12_append 38 = .ok (.if_icmp .ge 14, 3) := by decide +kernel
theorem dX12_append_41 : decode cX12_append 41 = .ok (.aload_n 0, 1) := by decide +kernel
theorem dX12_append_42 : decode cX12_append 42 = .ok (.invokevirtual 291, 3) := by decide +kernel
theorem dX12_append_45 : decode cX12_append 45 = .ok (.ifCond .eq 7, 3) := by decide +kernel
theorem dX12_append_48 : decode cX12_append 48 = .ok (.iconst 1, 1) := by decide +kernel
theorem dX12_append_49 : decode cX12_append 49 = .ok (.goto 4, 3) := by decide +kernel
theorem dX12_append_52 : decode cX12_append 52 = .ok (.iconst 0, 1) := by decide +kernel
theorem dX12_append_53 : decode cX12_append 53 = .ok (.istore 5, 2) := by decide +kernel
theorem dX12_append_55 : decode cX12_append 55 = .ok (.aload_n 0, 1) := by decide +kernel
theorem dX12_append_56 : decode cX12_append 56 = .ok (.iload_n 3, 1) := by decide +kernel
theorem dX12_append_57 : decode cX12_append 57 = .ok (.iload 4, 2) := by decide +kernel
theorem dX12_append_59 : decode cX12_append 59 = .ok (.iload 5, 2) := by decide +kernel
theorem dX12_append_61 : decode cX12_append 61 = .ok (.invokevirtual 330, 3) := by decide +kernel
theorem dX12_append_64 : decode cX12_append 64 = .ok (.ifCond .ne 5, 3) := by decide +kernel
theorem dX12_append_67 : decode cX12_append 67 = .ok (.iconst 0, 1) := by decide +kernel
theorem dX12_append_68 : decode cX12_append 68 = .ok (.ireturn, 1) := by decide +kernel
theorem dX12_append_69 : decode cX12_append 69 = .ok (.aload_n 0, 1) := by decide +kernel
theorem dX12_append_70 : decode cX12_append 70 = .ok (.invokevirtual 324, 3) := by decide +kernel
theorem dX12_append_73 : decode cX12_append 73 = .ok (.aload_n 0, 1) := by decide +kernel
theorem dX12_append_74 : decode cX12_append 74 = .ok (.iload_n 1, 1) := by decide +kernel
theorem dX12_append_75 : decode cX12_append 75 = .ok (.iload_n 2, 1) := by decide +kernel
theorem dX12_append_76 : decode cX12_append 76 = .ok (.invokevirtual 298, 3) := by decide +kernel
theorem dX12_append_79 : decode cX12_append 79 = .ok (.ireturn, 1) := by decide +kernel
theorem dX12_truncate_0 : decode cX12_truncate 0 = .ok (.aload_n 0, 1) := by decide +kernel
theorem dX12_truncate_1 : decode cX12_truncate 1 = .ok (.iload_n 1, 1) := by decide +kernel
theorem dX12_truncate_2 : decode cX12_truncate 2 = .ok (.invokevirtual 285, 3) := by decide +kernel
theorem dX12_truncate_5 : decode cX12_truncate 5 = .ok (.istore_n 3, 1) := by decide +kernel
theorem dX12_truncate_6 : decode cX12_truncate 6 = .ok (.iload_n 3, 1) := by decide +kernel
theorem dX12_truncate_7 : decode cX12_truncate 7 = .ok (.ifCond .eq 28, 3) := by decide +kernel
theorem dX12_truncate_10 : decode cX12_truncate 10 = .ok (.iload_n 2, 1) := by decide +kernel
theorem dX12_truncate_11 : decode cX12_truncate 11 = .ok (.ifCond .lt 24, 3) := by decide +kernel
theorem dX12_truncate_14 : decode cX12_truncate 14 = .ok (.aload_n 0, 1) := by decide +kernel
theorem dX12_truncate_15 : decode cX12_truncate 15 = .ok (.iload_n 1, 1) := by decide +kernel
theorem dX12_truncate_16 : decode cX12_truncate 16 = .ok (.invokevirtual 164, 3) := by decide +kernel
theorem dX12_truncate_19 : decode cX12_truncate 19 = .ok (.ifCond .ne 12, 3) := by decide +kernel
theorem dX12_truncate_22 : decode cX12_truncate 22 = .ok (.iload_n 2, 1) := by decide +kernel
theorem dX12_truncate_23 : decode cX12_truncate 23 = .ok (.aload_n 0, 1) := by decide +kernel
theorem dX12_truncate_24 : decode cX12_truncate 24 = .ok (.iload_n 1, 1) := by decide +kernel
theorem dX12_truncate_25 : decode cX12_truncate 25 = .ok (.invokevirtual 121, 3) := by decide +kernel
theorem dX12_truncate_28 : decode cX12_truncate 28 = .ok (.if_icmp .gt 7, 3) := by decide +kernel
theorem dX12_truncate_31 : decode cX12_truncate 31 = .ok (.iconst 1, 1) := by decide +kernel
theorem dX12_truncate_32 : decode cX12_truncate 32 = .ok (.goto 4, 3) := by decide +kernel
theorem dX12_truncate_35 : decode cX12_truncate 35 = .ok (.iconst 0, 1) := by decide +kernel
theorem dX12_truncate_36 : decode cX12_truncate 36 = .ok (.istore 4, 2) := by decide +kernel
theorem dX12_truncate_38 : decode cX12_truncate 38 = .ok (.aload_n 0, 1) := by decide +kernel
theorem dX12_truncate_39 : decode cX12_truncate 39 = .ok (.iload_n 3, 1) := by decide +kernel
theorem dX12_truncate_40 : decode cX12_truncate 40 = .ok (.iload 4, 2) := by decide +kernel
theorem dX12_truncate_42 : decode cX12_truncate 42 = .ok (.iload 4, 2) := by decide +kernel
theorem dX12_truncate_44 : decode cX12_truncate 44 = .ok (.ifCond .eq 22, 3) := by decide +kernel
theorem dX12_truncate_47 : decode cX12_truncate 47 = .ok (.aload_n 0, 1) := by decide +kernel
theorem dX12_truncate_48 : decode cX12_truncate 48 = .ok (.iload_n 1, 1) := by decide +kernel
theorem dX12_truncate_49 : decode cX12_truncate 49 = .ok (.invokevirtual 164, 3) := by decide +kernel
theorem dX12_truncate_52 : decode cX12_truncate 52 = .ok (.ifCond .ne 14, 3) := by decide +kernel
theorem dX12_truncate_55 : decode cX12_truncate 55 = .ok (.aload_n 0, 1) := by decide +kernel
theorem dX12_truncate_56 : decode cX12_truncate 56 = .ok (.invokevirtual 291, 3) := by decide +kernel
theorem dX12_truncate_59 : decode cX12_truncate 59 = .ok (.ifCond .eq 7, 3) := by decide +kernel
theorem dX12_truncate_62 : decode cX12_truncate 62 = .ok (.iconst 1, 1) := by decide +kernel
theorem dX12_truncate_63 : decode cX12_truncate 63 = .ok (.goto 4, 3) := by decide +kernel
theorem dX12_truncate_66 : decode cX12_truncate 66 = .ok (.iconst 0, 1) := by decide +kernel
theorem dX12_truncate_67 : decode cX12_truncate 67 = .ok (.invokevirtual 330, 3) := by decide +kernel
theorem dX12_truncate_70 : decode cX12_truncate 70 = .ok (.ifCond .ne 5, 3) := by decide +kernel
theorem dX12_truncate_73 : decode cX12_truncate 73 = .ok (.iconst 0, 1) := by decide +kernel
theorem dX12_truncate_74 : decode cX12_truncate 74 = .ok (.ireturn, 1) := by decide +kernel
theorem dX12_truncate_75 : decode cX12_truncate 75 = .ok (.aload_n 0, 1) := by decide +kernel
theorem dX12_truncate_76 : decode cX12_truncate 76 = .ok (.invokevirtual 324, 3) := by decide +kernel
theorem dX12_truncate_79 : decode cX12_truncate 79 = .ok (.aload_n 0, 1) := by decide +kernel
theorem dX12_truncate_80 : decode cX12_truncate 80 = .ok (.iload_n 1, 1) := by decide +kernel
theorem dX12_truncate_81 : decode cX12_truncate 81 = .ok (.iload_n 2, 1) := by decide +kernel
theorem dX12_truncate_82 : decode cX12_truncate 82 = .ok (.invokevirtual 301, 3) := by decide +kernel
theorem dX12_truncate_85 : decode cX12_truncate 85 = .ok (.ireturn, 1) := by decide +kernel
theorem dX12_release_0 : decode cX12_release 0 = .ok (.aload_n 0, 1) := by decide +kernel
theorem dX12_release_1 : decode cX12_release 1 = .ok (.iload_n 1, 1) := by decide +kernel
theorem dX12_release_2 : decode cX12_release 2 = .ok (.invokevirtual 343, 3) := by decide +kernel
theorem dX12_release_5 : decode cX12_release 5 = .ok (.ifCond .ne 5, 3) := by decide +kernel
theorem dX12_release_8 : decode cX12_release 8 = .ok (.iconst 0, 1) := by decide +kernel
theorem dX12_release_9 : decode cX12_release 9 = .ok (.ireturn, 1) := by decide +kernel
theorem dX12_release_10 : decode cX12_release 10 = .ok (.aload_n 0, 1) := by decide +kernel
theorem dX12_release_11 : decode cX12_release 11 = .ok (.invokevirtual 324, 3) := by decide +kernel
theorem dX12_release_14 : decode cX12_release 14 = .ok (.aload_n 0, 1) := by decide +kernel
theorem dX12_release_15 : decode cX12_release 15 = .ok (.iload_n 1, 1) := by decide +kernel
theorem dX12_release_16 : decode cX12_release 16 = .ok (.invokevirtual 315, 3) := by decide +kernel
theorem dX12_release_19 : decode cX12_release 19 = .ok (.ireturn, 1) := by decide +kernel
theorem dX12_collect_0 : decode cX12_collect 0 = .ok (.aload_n 0, 1) := by decide +kernel
theorem dX12_collect_1 : decode cX12_collect 1 = .ok (.iconst 0, 1) := by decide +kernel
theorem dX12_collect_2 : decode cX12_collect 2 = .ok (.putfield 58, 3) := by decide +kernel
theorem dX12_collect_5 : decode cX12_collect 5 = .ok (.aload_n 0, 1) := by decide +kernel
theorem dX12_collect_6 : decode cX12_collect 6 = .ok (.invokevirtual 324, 3) := by decide +kernel
theorem dX12_collect_9 : decode cX12_collect 9 = .ok (.aload_n 0, 1) := by decide +kernel
theorem dX12_collect_10 : decode cX12_collect 10 = .ok (.invokevirtual 318, 3) := by decide +kernel
theorem dX12_collect_13 : decode cX12_collect 13 = .ok (.ireturn, 1) := by decide +kernel
theorem dX12_undo_0 : decode cX12_undo 0 = .ok (.aload_n 0, 1) := by decide +kernel
theorem dX12_undo_1 : decode cX12_undo 1 = .ok (.aload_n 0, 1) := by decide +kernel
theorem dX12_undo_2 : decode cX12_undo 2 = .ok (.getfield 61, 3) := by decide +kernel
theorem dX12_undo_5 : decode cX12_undo 5 = .ok (.ifCond .le 7, 3) := by decide +kernel
theorem dX12_undo_8 : decode cX12_undo 8 = .ok (.iconst 1, 1) := by decide +kernel
theorem dX12_undo_9 : decode cX12_undo 9 = .ok (.goto 4, 3) := by decide +kernel
theorem dX12_undo_12 : decode cX12_undo 12 = .ok (.iconst 0, 1) := by decide +kernel
theorem dX12_undo_13 : decode cX12_undo 13 = .ok (.iconst 1, 1) := by decide +kernel
theorem dX12_undo_14 : decode cX12_undo 14 = .ok (.iconst 1, 1) := by decide +kernel
theorem dX12_undo_15 : decode cX12_undo 15 = .ok (.invokevirtual 330, 3) := by decide +kernel
theorem dX12_undo_18 : decode cX12_undo 18 = .ok (.ifCond .ne 5, 3) := by decide +kernel
theorem dX12_undo_21 : decode cX12_undo 21 = .ok (.iconst 0, 1) := by decide +kernel
theorem dX12_undo_22 : decode cX12_undo 22 = .ok (.ireturn, 1) := by decide +kernel
theorem dX12_undo_23 : decode cX12_undo 23 = .ok (.aload_n 0, 1) := by decide +kernel
theorem dX12_undo_24 : decode cX12_undo 24 = .ok (.dup, 1) := by decide +kernel
theorem dX12_undo_25 : decode cX12_undo 25 = .ok (.getfield 61, 3) := by decide +kernel
theorem dX12_undo_28 : decode cX12_undo 28 = .ok (.iconst 1, 1) := by decide +kernel
theorem dX12_undo_29 : decode cX12_undo 29 = .ok (.isub, 1) := by decide +kernel
theorem dX12_undo_30 : decode cX12_undo 30 = .ok (.putfield 61, 3) := by decide +kernel
theorem dX12_undo_33 : decode cX12_undo 33 = .ok (.iconst 0, 1) := by decide +kernel
theorem dX12_undo_34 : decode cX12_undo 34 = .ok (.istore_n 1, 1) := by decide +kernel
theorem dX12_undo_35 : decode cX12_undo 35 = .ok (.iload_n 1, 1) := by decide +kernel
theorem dX12_undo_36 : decode cX12_undo 36 = .ok (.sipush 4210, 3) := by decide +kernel
theorem dX12_undo_39 : decode cX12_undo 39 = .ok (.if_icmp .ge 30, 3) := by decide +kernel
theorem dX12_undo_42 : decode cX12_undo 42 = .ok (.aload_n 0, 1) := by decide +kernel
theorem dX12_undo_43 : decode cX12_undo 43 = .ok (.getfield 9, 3) := by decide +kernel
theorem dX12_undo_46 : decode cX12_undo 46 = .ok (.iload_n 1, 1) := by decide +kernel
theorem dX12_undo_47 : decode cX12_undo 47 = .ok (.aload_n 0, 1) := by decide +kernel
theorem dX12_undo_48 : decode cX12_undo 48 = .ok (.getfield 20, 3) := by decide +kernel
theorem dX12_undo_51 : decode cX12_undo 51 = .ok (.sipush 4210, 3) := by decide +kernel
theorem dX12_undo_54 : decode cX12_undo 54 = .ok (.aload_n 0, 1) := by decide +kernel
theorem dX12_undo_55 : decode cX12_undo 55 = .ok (.getfield 61, 3) := by decide +kernel
theorem dX12_undo_58 : decode cX12_undo 58 = .ok (.imul, 1) := by decide +kernel
theorem dX12_undo_59 : decode cX12_undo 59 = .ok (.iload_n 1, 1) := by decide +kernel
theorem dX12_undo_60 : decode cX12_undo 60 = .ok (.iadd, 1) := by decide +kernel
theorem dX12_undo_61 : decode cX12_undo 61 = .ok (.iaload, 1) := by decide +kernel
theorem dX12_undo_62 : decode cX12_undo 62 = .ok (.iastore, 1) := by decide +kernel
theorem dX12_undo_63 : decode cX12_undo 63 = .ok (.iinc 1 1, 3) := by decide +kernel
theorem dX12_undo_66 : decode cX12_undo 66 = .ok (.goto (-31), 3) := by decide +kernel
theorem dX12_undo_69 : decode cX12_undo 69 = .ok (.aload_n 0, 1) := by decide +kernel
theorem dX12_undo_70 : decode cX12_undo 70 = .ok (.getfield 61, 3) := by decide +kernel
theorem dX12_undo_73 : decode cX12_undo 73 = .ok (.ireturn, 1) := by decide +kernel
theorem dX12_write_0 : decode cX12_write 0 = .ok (.aload_n 0, 1) := by decide +kernel
theorem dX12_write_1 : decode cX12_write 1 = .ok (.getfield 49, 3) := by decide +kernel
theorem dX12_write_4 : decode cX12_write 4 = .ok (.aload_n 0, 1) := by decide +kernel
theorem dX12_write_5 : decode cX12_write 5 = .ok (.getfield 402, 3) := by decide +kernel
theorem dX12_write_8 : decode cX12_write 8 = .ok (.iload_n 1, 1) := by decide +kernel
theorem dX12_write_9 : decode cX12_write 9 = .ok (.i2b, 1) := by decide +kernel
theorem dX12_write_10 : decode cX12_write 10 = .ok (.bastore, 1) := by decide +kernel
theorem dX12_write_11 : decode cX12_write 11 = .ok (.aload_n 0, 1) := by decide +kernel
theorem dX12_write_12 : decode cX12_write 12 = .ok (.dup, 1) := by decide +kernel
theorem dX12_write_13 : decode cX12_write 13 = .ok (.getfield 402, 3) := by decide +kernel
theorem dX12_write_16 : decode cX12_write 16 = .ok (.iconst 1, 1) := by decide +kernel
theorem dX12_write_17 : decode cX12_write 17 = .ok (.iadd, 1) := by decide +kernel
theorem dX12_write_18 : decode cX12_write 18 = .ok (.putfield 402, 3) := by decide +kernel
theorem dX12_write_21 : decode cX12_write 21 = .ok (.return_, 1) := by decide +kernel
theorem dX12_writeNumber_0 : decode cX12_writeNumber 0 = .ok (.iload_n 1, 1) := by decide +kernel
theorem dX12_writeNumber_1 : decode cX12_writeNumber 1 = .ok (.invokestatic 405, 3) := by decide +kernel
theorem dX12_writeNumber_4 : decode cX12_writeNumber 4 = .ok (.istore_n 2, 1) := by decide +kernel
theorem dX12_writeNumber_5 : decode cX12_writeNumber 5 = .ok (.iload_n 1, 1) := by decide +kernel
theorem dX12_writeNumber_6 : decode cX12_writeNumber 6 = .ok (.ifCond .ge 9, 3) := by decide +kernel
theorem dX12_writeNumber_9 : decode cX12_writeNumber 9 = .ok (.aload_n 0, 1) := by decide +kernel
theorem dX12_writeNumber_10 : decode cX12_writeNumber 10 = .ok (.bipush 45, 2) := by decide +kernel
theorem dX12_writeNumber_12 : decode cX12_writeNumber 12 = .ok (.invokevirtual 408, 3) := by decide +kernel
theorem dX12_writeNumber_15 : decode cX12_writeNumber 15 = .ok (.iload_n 2, 1) := by decide +kernel
theorem dX12_writeNumber_16 : decode cX12_writeNumber 16 = .ok (.bipush 99, 2) := by decide +kernel
theorem dX12_writeNumber_18 : decode cX12_writeNumber 18 = .ok (.if_icmp .le 14, 3) := by decide +kernel
theorem dX12_writeNumber_21 : decode cX12_writeNumber 21 = .ok (.aload_n 0, 1) := by decide +kernel
theorem dX12_writeNumber_22 : decode cX12_writeNumber 22 = .ok (.bipush 48, 2) := by decide +kernel
theorem dX12_writeNumber_24 : decode cX12_writeNumber 24 = .ok (.iload_n 2, 1) := by decide +kernel
theorem dX12_writeNumber_25 : decode cX12_writeNumber 25 = .ok (.bipush 100, 2) := by decide +kernel
theorem dX12_writeNumber_27 : decode cX12_writeNumber 27 = .ok (.idiv, 1) := by decide +kernel
theorem dX12_writeNumber_28 : decode cX12_writeNumber 28 = .ok (.iadd, 1) := by decide +kernel
theorem dX12_writeNumber_29 : decode cX12_writeNumber 29 = .ok (.invokevirtual 408, 3) := by decide +kernel
theorem dX12_writeNumber_32 : decode cX12_writeNumber 32 = .ok (.iload_n 2, 1) := by decide +kernel
theorem dX12_writeNumber_33 : decode cX12_writeNumber 33 = .ok (.bipush 9, 2) := by decide +kernel
theorem dX12_writeNumber_35 : decode cX12_writeNumber 35 = .ok (.if_icmp .le 17, 3) := by decide +kernel
theorem dX12_writeNumber_38 : decode cX12_writeNumber 38 = .ok (.aload_n 0, 1) := by decide +kernel
theorem dX12_writeNumber_39 : decode cX12_writeNumber 39 = .ok (.bipush 48, 2) := by decide +kernel
theorem dX12_writeNumber_41 : decode cX12_writeNumber 41 = .ok (.iload_n 2, 1) := by decide +kernel
theorem dX12_writeNumber_42 : decode cX12_writeNumber 42 = .ok (.bipush 10, 2) := by decide +kernel
theorem dX12_writeNumber_44 : decode cX12_writeNumber 44 = .ok (.idiv, 1) := by decide +kernel
theorem dX12_writeNumber_45 : decode cX12_writeNumber 45 = .ok (.bipush 10, 2) := by decide +kernel
theorem dX12_writeNumber_47 : decode cX12_writeNumber 47 = .ok (.irem, 1) := by decide +kernel
theorem dX12_writeNumber_48 : decode cX12_writeNumber 48 = .ok (.iadd, 1) := by decide +kernel
theorem dX12_writeNumber_49 : decode cX12_writeNumber 49 = .ok (.invokevirtual 408, 3) := by decide +kernel
theorem dX12_writeNumber_52 : decode cX12_writeNumber 52 = .ok (.aload_n 0, 1) := by decide +kernel
theorem dX12_writeNumber_53 : decode cX12_writeNumber 53 = .ok (.bipush 48, 2) := by decide +kernel
theorem dX12_writeNumber_55 : decode cX12_writeNumber 55 = .ok (.iload_n 2, 1) := by decide +kernel
theorem dX12_writeNumber_56 : decode cX12_writeNumber 56 = .ok (.bipush 10, 2) := by decide +kernel
theorem dX12_writeNumber_58 : decode cX12_writeNumber 58 = .ok (.irem, 1) := by decide +kernel
theorem dX12_writeNumber_59 : decode cX12_writeNumber 59 = .ok (.iadd, 1) := by decide +kernel
theorem dX12_writeNumber_60 : decode cX12_writeNumber 60 = .ok (.invokevirtual 408, 3) := by decide +kernel
theorem dX12_writeNumber_63 : decode cX12_writeNumber 63 = .ok (.return_, 1) := by decide +kernel
theorem dX12_writeVersion_0 : decode cX12_writeVersion 0 = .ok (.aload_n 0, 1) := by decide +kernel
theorem dX12_writeVersion_1 : decode cX12_writeVersion 1 = .ok (.iload_n 1, 1) := by decide +kernel
theorem dX12_writeVersion_2 : decode cX12_writeVersion 2 = .ok (.invokevirtual 343, 3) := by decide +kernel
theorem dX12_writeVersion_5 : decode cX12_writeVersion 5 = .ok (.ifCond .ne 5, 3) := by decide +kernel
theorem dX12_writeVersion_8 : decode cX12_writeVersion 8 = .ok (.iconst 0, 1) := by decide +kernel
theorem dX12_writeVersion_9 : decode cX12_writeVersion 9 = .ok (.ireturn, 1) := by decide +kernel
theorem dX12_writeVersion_10 : decode cX12_writeVersion 10 = .ok (.aload_n 0, 1) := by decide +kernel
theorem dX12_writeVersion_11 : decode cX12_writeVersion 11 = .ok (.iconst 0, 1) := by decide +kernel
theorem dX12_writeVersion_12 : decode cX12_writeVersion 12 = .ok (.putfield 402, 3) := by decide +kernel
theorem dX12_writeVersion_15 : decode cX12_writeVersion 15 = .ok (.aload_n 0, 1) := by decide +kernel
theorem dX12_writeVersion_16 : decode cX12_writeVersion 16 = .ok (.bipush 91, 2) := by decide +kernel
theorem dX12_writeVersion_18 : decode cX12_writeVersion 18 = .ok (.invokevirtual 408, 3) := by decide +kernel
theorem dX12_writeVersion_21 : decode cX12_writeVersion 21 = .ok (.iconst 0, 1) := by decide +kernel
theorem dX12_writeVersion_22 : decode cX12_writeVersion 22 = .ok (.istore_n 2, 1) := by decide +kernel
theorem dX12_writeVersion_23 : decode cX12_writeVersion 23 = .ok (.iload_n 2, 1) := by decide +kernel
theorem dX12_writeVersion_24 : decode cX12_writeVersion 24 = .ok (.aload_n 0, 1) := by decide +kernel
theorem dX12_writeVersion_25 : decode cX12_writeVersion 25 = .ok (.iload_n 1, 1) := by decide +kernel
theorem dX12_writeVersion_26 : decode cX12_writeVersion 26 = .ok (.invokevirtual 121, 3) := by decide +kernel
theorem dX12_writeVersion_29 : decode cX12_writeVersion 29 = .ok (.if_icmp .ge 40, 3) := by decide +kernel
theorem dX12_writeVersion_32 : decode cX12_writeVersion 32 = .ok (.iload_n 2, 1) := by decide +kernel
theorem dX12_writeVersion_33 : decode cX12_writeVersion 33 = .ok (.ifCond .le 20, 3) := by decide +kernel
theorem dX12_writeVersion_36 : decode cX12_writeVersion 36 = .ok (.aload_n 0, 1) := by decide +kernel
theorem dX12_writeVersion_37 : decode cX12_writeVersion 37 = .ok (.iload_n 2, 1) := by decide +kernel
theorem dX12_writeVersion_38 : decode cX12_writeVersion 38 = .ok (.iconst 4, 1) := by decide +kernel
theorem dX12_writeVersion_39 : decode cX12_writeVersion 39 = .ok (.irem, 1) := by decide +kernel
theorem dX12_writeVersion_40 : decode cX12_writeVersion 40 = .ok (.ifCond .ne 8, 3) := by decide +kernel
theorem dX12_writeVersion_43 : decode cX12_writeVersion 43 = .ok (.bipush 124, 2) := by decide +kernel
theorem dX12_writeVersion_45 : decode cX12_writeVersion 45 = .ok (.goto 5, 3) := by decide +kernel
theorem dX12_writeVersion_48 : decode cX12_writeVersion 48 = .ok (.bipush 44, 2) := by decide +kernel
theorem dX12_writeVersion_50 : decode cX12_writeVersion 50 = .ok (.invokevirtual 408, 3) := by decide +kernel
theorem dX12_writeVersion_53 : decode cX12_writeVersion 53 = .ok (.aload_n 0, 1) := by decide +kernel
theorem dX12_writeVersion_54 : decode cX12_writeVersion 54 = .ok (.aload_n 0, 1) := by decide +kernel
theorem dX12_writeVersion_55 : decode cX12_writeVersion 55 = .ok (.iload_n 1, 1) := by decide +kernel
theorem dX12_writeVersion_56 : decode cX12_writeVersion 56 = .ok (.iload_n 2, 1) := by decide +kernel
theorem dX12_writeVersion_57 : decode cX12_writeVersion 57 = .ok (.invokevirtual 129, 3) := by decide +kernel
theorem dX12_writeVersion_60 : decode cX12_writeVersion 60 = .ok (.invokevirtual 411, 3) := by decide +kernel
theorem dX12_writeVersion_63 : decode cX12_writeVersion 63 = .ok (.iinc 2 1, 3) := by decide +kernel
theorem dX12_writeVersion_66 : decode cX12_writeVersion 66 = .ok (.goto (-43), 3) := by decide +kernel
theorem dX12_writeVersion_69 : decode cX12_writeVersion 69 = .ok (.aload_n 0, 1) := by decide +kernel
theorem dX12_writeVersion_70 : decode cX12_writeVersion 70 = .ok (.bipush 93, 2) := by decide +kernel
theorem dX12_writeVersion_72 : decode cX12_writeVersion 72 = .ok (.invokevirtual 408, 3) := by decide +kernel
theorem dX12_writeVersion_75 : decode cX12_writeVersion 75 = .ok (.aload_n 0, 1) := by decide +kernel
theorem dX12_writeVersion_76 : decode cX12_writeVersion 76 = .ok (.getfield 402, 3) := by decide +kernel
theorem dX12_writeVersion_79 : decode cX12_writeVersion 79 = .ok (.ireturn, 1) := by decide +kernel
theorem dX12_outputByte_0 : decode cX12_outputByte 0 = .ok (.aload_n 0, 1) := by decide +kernel
theorem dX12_outputByte_1 : decode cX12_outputByte 1 = .ok (.iconst 0, 1) := by decide +kernel
theorem dX12_outputByte_2 : decode cX12_outputByte 2 = .ok (.putfield 58, 3) := by decide +kernel
theorem dX12_outputByte_5 : decode cX12_outputByte 5 = .ok (.iload_n 1, 1) := by decide +kernel
theorem dX12_outputByte_6 : decode cX12_outputByte 6 = .ok (.i2l, 1) := by decide +kernel
theorem dX12_outputByte_7 : decode cX12_outputByte 7 = .ok (.lconst 0, 1) := by decide +kernel
theorem dX12_outputByte_8 : decode cX12_outputByte 8 = .ok (.aload_n 0, 1) := by decide +kernel
theorem dX12_outputByte_9 : decode cX12_outputByte 9 = .ok (.getfield 402, 3) := by decide +kernel
theorem dX12_outputByte_12 : decode cX12_outputByte 12 = .ok (.iconst 1, 1) := by decide +kernel
theorem dX12_outputByte_13 : decode cX12_outputByte 13 = .ok (.isub, 1) := by decide +kernel
theorem dX12_outputByte_14 : decode cX12_outputByte 14 = .ok (.i2l, 1) := by decide +kernel
theorem dX12_outputByte_15 : decode cX12_outputByte 15 = .ok (.invokestatic 167, 3) := by decide +kernel
theorem dX12_outputByte_18 : decode cX12_outputByte 18 = .ok (.ifCond .eq 12, 3) := by decide +kernel
theorem dX12_outputByte_21 : decode cX12_outputByte 21 = .ok (.aload_n 0, 1) := by decide +kernel
theorem dX12_outputByte_22 : decode cX12_outputByte 22 = .ok (.getfield 49, 3) := by decide +kernel
theorem dX12_outputByte_25 : decode cX12_outputByte 25 = .ok (.iload_n 1, 1) := by decide +kernel
theorem dX12_outputByte_26 : decode cX12_outputByte 26 = .ok (.baload, 1) := by decide +kernel
theorem dX12_outputByte_27 : decode cX12_outputByte 27 = .ok (.goto 4, 3) := by decide +kernel
theorem dX12_outputByte_30 : decode cX12_outputByte 30 = .ok (.iconst (-1), 1) := by decide +kernel
theorem dX12_outputByte_31 : decode cX12_outputByte 31 = .ok (.ireturn, 1) := by decide +kernel
theorem dX12_saveState_0 : decode cX12_saveState 0 = .ok (.aload_n 0, 1) := by decide +kernel
theorem dX12_saveState_1 : decode cX12_saveState 1 = .ok (.iconst 0, 1) := by decide +kernel
theorem dX12_saveState_2 : decode cX12_saveState 2 = .ok (.putfield 58, 3) := by decide +kernel
theorem dX12_saveState_5 : decode cX12_saveState 5 = .ok (.aload_n 0, 1) := by decide +kernel
theorem dX12_saveState_6 : decode cX12_saveState 6 = .ok (.aload_n 0, 1) := by decide +kernel
theorem dX12_saveState_7 : decode cX12_saveState 7 = .ok (.getfield 16, 3) := by decide +kernel
theorem dX12_saveState_10 : decode cX12_saveState 10 = .ok (.invokevirtual 414, 3) := by decide +kernel
theorem dX12_saveState_13 : decode cX12_saveState 13 = .ok (.aload_n 0, 1) := by decide +kernel
theorem dX12_saveState_14 : decode cX12_saveState 14 = .ok (.iconst 1, 1) := by decide +kernel
theorem dX12_saveState_15 : decode cX12_saveState 15 = .ok (.putfield 262, 3) := by decide +kernel
theorem dX12_saveState_18 : decode cX12_saveState 18 = .ok (.aload_n 0, 1) := by decide +kernel
theorem dX12_saveState_19 : decode cX12_saveState 19 = .ok (.getfield 9, 3) := by decide +kernel
theorem dX12_saveState_22 : decode cX12_saveState 22 = .ok (.iconst 0, 1) := by decide +kernel
theorem dX12_saveState_23 : decode cX12_saveState 23 = .ok (.iaload, 1) := by decide +kernel
theorem dX12_saveState_24 : decode cX12_saveState 24 = .ok (.ireturn, 1) := by decide +kernel
theorem dX12_restoreState_0 : decode cX12_restoreState 0 = .ok (.aload_n 0, 1) := by decide +kernel
theorem dX12_restoreState_1 : decode cX12_restoreState 1 = .ok (.aload_n 0, 1) := by decide +kernel
theorem dX12_restoreState_2 : decode cX12_restoreState 2 = .ok (.getfield 262, 3) := by decide +kernel
theorem dX12_restoreState_5 : decode cX12_restoreState 5 = .ok (.iconst 1, 1) := by decide +kernel
theorem dX12_restoreState_6 : decode cX12_restoreState 6 = .ok (.iconst 1, 1) := by decide +kernel
theorem dX12_restoreState_7 : decode cX12_restoreState 7 = .ok (.invokevirtual 330, 3) := by decide +kernel
theorem dX12_restoreState_10 : decode cX12_restoreState 10 = .ok (.ifCond .ne 5, 3) := by decide +kernel
theorem dX12_restoreState_13 : decode cX12_restoreState 13 = .ok (.iconst 0, 1) := by decide +kernel
theorem dX12_restoreState_14 : decode cX12_restoreState 14 = .ok (.ireturn, 1) := by decide +kernel
theorem dX12_restoreState_15 : decode cX12_restoreState 15 = .ok (.aload_n 0, 1) := by decide +kernel
theorem dX12_restoreState_16 : decode cX12_restoreState 16 = .ok (.aload_n 0, 1) := by decide +kernel
theorem dX12_restoreState_17 : decode cX12_restoreState 17 = .ok (.getfield 16, 3) := by decide +kernel
theorem dX12_restoreState_20 : decode cX12_restoreState 20 = .ok (.invokevirtual 418, 3) := by decide +kernel
theorem dX12_restoreState_23 : decode cX12_restoreState 23 = .ok (.aload_n 0, 1) := by decide +kernel
theorem dX12_restoreState_24 : decode cX12_restoreState 24 = .ok (.iconst 0, 1) := by decide +kernel
theorem dX12_restoreState_25 : decode cX12_restoreState 25 = .ok (.putfield 61, 3) := by decide +kernel
theorem dX12_restoreState_28 : decode cX12_restoreState 28 = .ok (.aload_n 0, 1) := by decide +kernel
theorem dX12_restoreState_29 : decode cX12_restoreState 29 = .ok (.getfield 9, 3) := by decide +kernel
theorem dX12_restoreState_32 : decode cX12_restoreState 32 = .ok (.iconst 0, 1) := by decide +kernel
theorem dX12_restoreState_33 : decode cX12_restoreState 33 = .ok (.iaload, 1) := by decide +kernel
theorem dX12_restoreState_34 : decode cX12_restoreState 34 = .ok (.ireturn, 1) := by decide +kernel
theorem dJ9_abs_0f7a4_0 : decode cJ9_abs_0f7a4 0 = .ok (.iload_n 0, 1) := by decide +kernel
theorem dJ9_abs_0f7a4_1 : decode cJ9_abs_0f7a4 1 = .ok (.ifCond .ge 8, 3) := by decide +kernel
theorem dJ9_abs_0f7a4_4 : decode cJ9_abs_0f7a4 4 = .ok (.iload_n 0, 1) := by decide +kernel
theorem dJ9_abs_0f7a4_5 : decode cJ9_abs_0f7a4 5 = .ok (.ineg, 1) := by decide +kernel
theorem dJ9_abs_0f7a4_6 : decode cJ9_abs_0f7a4 6 = .ok (.goto 4, 3) := by decide +kernel
theorem dJ9_abs_0f7a4_9 : decode cJ9_abs_0f7a4 9 = .ok (.iload_n 0, 1) := by decide +kernel
theorem dJ9_abs_0f7a4_10 : decode cJ9_abs_0f7a4 10 = .ok (.ireturn, 1) := by decide +kernel
theorem dJ9_max_7cf53_0 : decode cJ9_max_7cf53 0 = .ok (.iload_n 0, 1) := by decide +kernel
theorem dJ9_max_7cf53_1 : decode cJ9_max_7cf53 1 = .ok (.iload_n 1, 1) := by decide +kernel
theorem dJ9_max_7cf53_2 : decode cJ9_max_7cf53 2 = .ok (.if_icmp .lt 7, 3) := by decide +kernel
theorem dJ9_max_7cf53_5 : decode cJ9_max_7cf53 5 = .ok (.iload_n 0, 1) := by decide +kernel
theorem dJ9_max_7cf53_6 : decode cJ9_max_7cf53 6 = .ok (.goto 4, 3) := by decide +kernel
theorem dJ9_max_7cf53_9 : decode cJ9_max_7cf53 9 = .ok (.iload_n 1, 1) := by decide +kernel
theorem dJ9_max_7cf53_10 : decode cJ9_max_7cf53 10 = .ok (.ireturn, 1) := by decide +kernel
theorem dJ9_min_7cf53_0 : decode cJ9_min_7cf53 0 = .ok (.iload_n 0, 1) := by decide +kernel
theorem dJ9_min_7cf53_1 : decode cJ9_min_7cf53 1 = .ok (.iload_n 1, 1) := by decide +kernel
theorem dJ9_min_7cf53_2 : decode cJ9_min_7cf53 2 = .ok (.if_icmp .gt 7, 3) := by decide +kernel
theorem dJ9_min_7cf53_5 : decode cJ9_min_7cf53 5 = .ok (.iload_n 0, 1) := by decide +kernel
theorem dJ9_min_7cf53_6 : decode cJ9_min_7cf53 6 = .ok (.goto 4, 3) := by decide +kernel
theorem dJ9_min_7cf53_9 : decode cJ9_min_7cf53 9 = .ok (.iload_n 1, 1) := by decide +kernel
theorem dJ9_min_7cf53_10 : decode cJ9_min_7cf53 10 = .ok (.ireturn, 1) := by decide +kernel
theorem dJ0_length_8abf5_0 : decode cJ0_length_8abf5 0 = .ok (.aload_n 0, 1) := by decide +kernel
theorem dJ0_length_8abf5_1 : decode cJ0_length_8abf5 1 = .ok (.getfield 9, 3) := by decide +kernel
theorem dJ0_length_8abf5_4 : decode cJ0_length_8abf5 4 = .ok (.arraylength, 1) := by decide +kernel
theorem dJ0_length_8abf5_5 : decode cJ0_length_8abf5 5 = .ok (.aload_n 0, 1) := by decide +kernel
theorem dJ0_length_8abf5_6 : decode cJ0_length_8abf5 6 = .ok (.invokevirtual 335, 3) := by decide +kernel
theorem dJ0_length_8abf5_9 : decode cJ0_length_8abf5 9 = .ok (.ishr, 1) := by decide +kernel
theorem dJ0_length_8abf5_10 : decode cJ0_length_8abf5 10 = .ok (.ireturn, 1) := by decide +kernel
theorem dJ0_charAt_5068e_0 : decode cJ0_charAt_5068e 0 = .ok (.aload_n 0, 1) := by decide +kernel
theorem dJ0_charAt_5068e_1 : decode cJ0_charAt_5068e 1 = .ok (.invokevirtual 492, 3) := by decide +kernel
theorem dJ0_charAt_5068e_4 : decode cJ0_charAt_5068e 4 = .ok (.ifCond .eq 12, 3) := by decide +kernel
theorem dJ0_charAt_5068e_7 : decode cJ0_charAt_5068e 7 = .ok (.aload_n 0, 1) := by decide +kernel
theorem dJ0_charAt_5068e_8 : decode cJ0_charAt_5068e 8 = .ok (.getfield 9, 3) := by decide +kernel
theorem dJ0_charAt_5068e_11 : decode cJ0_charAt_5068e 11 = .ok (.iload_n 1, 1) := by decide +kernel
theorem dJ0_charAt_5068e_12 : decode cJ0_charAt_5068e 12 = .ok (.invokestatic 495, 3) := by decide +kernel
theorem dJ0_charAt_5068e_15 : decode cJ0_charAt_5068e 15 = .ok (.ireturn, 1) := by decide +kernel
theorem dJ0_charAt_5068e_16 : decode cJ0_charAt_5068e 16 = .ok (.aload_n 0, 1) := by decide +kernel
theorem dJ0_charAt_5068e_17 : decode cJ0_charAt_5068e 17 = .ok (.getfield 9, 3) := by decide +kernel
theorem dJ0_charAt_5068e_20 : decode cJ0_charAt_5068e 20 = .ok (.iload_n 1, 1) := by decide +kernel
theorem dJ0_charAt_5068e_21 : decode cJ0_charAt_5068e 21 = .ok (.invokestatic 498, 3) := by decide +kernel
theorem dJ0_charAt_5068e_24 : decode cJ0_charAt_5068e 24 = .ok (.ireturn, 1) := by decide +kernel
theorem dJ0_coder_7d493_0 : decode cJ0_coder_7d493 0 = .ok (.getstatic 38, 3) := by decide +kernel
theorem dJ0_coder_7d493_3 : decode cJ0_coder_7d493 3 = .ok (.ifCond .eq 10, 3) := by decide +kernel
theorem dJ0_coder_7d493_6 : decode cJ0_coder_7d493 6 = .ok (.aload_n 0, 1) := by decide +kernel
theorem dJ0_coder_7d493_7 : decode cJ0_coder_7d493 7 = .ok (.getfield 15, 3) := by decide +kernel
theorem dJ0_coder_7d493_10 : decode cJ0_coder_7d493 10 = .ok (.goto 4, 3) := by decide +kernel
theorem dJ0_coder_7d493_13 : decode cJ0_coder_7d493 13 = .ok (.iconst 1, 1) := by decide +kernel
theorem dJ0_coder_7d493_14 : decode cJ0_coder_7d493 14 = .ok (.ireturn, 1) := by decide +kernel
theorem dJ0_isLatin1_aae02_0 : decode cJ0_isLatin1_aae02 0 = .ok (.getstatic 38, 3) := by decide +kernel
theorem dJ0_isLatin1_aae02_3 : decode cJ0_isLatin1_aae02 3 = .ok (.ifCond .eq 14, 3) := by decide +kernel
theorem dJ0_isLatin1_aae02_6 : decode cJ0_isLatin1_aae02 6 = .ok (.aload_n 0, 1) := by decide +kernel
theorem dJ0_isLatin1_aae02_7 : decode cJ0_isLatin1_aae02 7 = .ok (.getfield 15, 3) := by decide +kernel
theorem dJ0_isLatin1_aae02_10 : decode cJ0_isLatin1_aae02 10 = .ok (.ifCond .ne 7, 3) := by decide +kernel
theorem dJ0_isLatin1_aae02_13 : decode cJ0_isLatin1_aae02 13 = .ok (.iconst 1, 1) := by decide +kernel
theorem dJ0_isLatin1_aae02_14 : decode cJ0_isLatin1_aae02 14 = .ok (.goto 4, 3) := by decide +kernel
theorem dJ0_isLatin1_aae02_17 : decode cJ0_isLatin1_aae02 17 = .ok (.iconst 0, 1) := by decide +kernel
theorem dJ0_isLatin1_aae02_18 : decode cJ0_isLatin1_aae02 18 = .ok (.ireturn, 1) := by decide +kernel
theorem dJ0_checkIndex_df160_0 : decode cJ0_checkIndex_df160 0 = .ok (.iload_n 0, 1) := by decide +kernel
theorem dJ0_checkIndex_df160_1 : decode cJ0_checkIndex_df160 1 = .ok (.iload_n 1, 1) := by decide +kernel
theorem dJ0_checkIndex_df160_2 : decode cJ0_checkIndex_df160 2 = .ok (.getstatic 1053, 3) := by decide +kernel
theorem dJ0_checkIndex_df160_5 : decode cJ0_checkIndex_df160 5 = .ok (.invokestatic 1059, 3) := by decide +kernel
theorem dJ0_checkIndex_df160_8 : decode cJ0_checkIndex_df160 8 = .ok (.pop, 1) := by decide +kernel
theorem dJ0_checkIndex_df160_9 : decode cJ0_checkIndex_df160 9 = .ok (.return_, 1) := by decide +kernel
theorem dJ1_charAt_3b067_0 : decode cJ1_charAt_3b067 0 = .ok (.iload_n 1, 1) := by decide +kernel
theorem dJ1_charAt_3b067_1 : decode cJ1_charAt_3b067 1 = .ok (.aload_n 0, 1) := by decide +kernel
theorem dJ1_charAt_3b067_2 : decode cJ1_charAt_3b067 2 = .ok (.arraylength, 1) := by decide +kernel
theorem dJ1_charAt_3b067_3 : decode cJ1_charAt_3b067 3 = .ok (.invokestatic 9, 3) := by decide +kernel
theorem dJ1_charAt_3b067_6 : decode cJ1_charAt_3b067 6 = .ok (.aload_n 0, 1) := by decide +kernel
theorem dJ1_charAt_3b067_7 : decode cJ1_charAt_3b067 7 = .ok (.iload_n 1, 1) := by decide +kernel
theorem dJ1_charAt_3b067_8 : decode cJ1_charAt_3b067 8 = .ok (.baload, 1) := by decide +kernel
theorem dJ1_charAt_3b067_9 : decode cJ1_charAt_3b067 9 = .ok (.sipush 255, 3) := by decide +kernel
theorem dJ1_charAt_3b067_12 : decode cJ1_charAt_3b067 12 = .ok (.iand, 1) := by decide +kernel
theorem dJ1_charAt_3b067_13 : decode cJ1_charAt_3b067 13 = .ok (.i2c, 1) := by decide +kernel
theorem dJ1_charAt_3b067_14 : decode cJ1_charAt_3b067 14 = .ok (.ireturn, 1) := by decide +kernel
theorem dJ2_getChar_3b067_0 : decode cJ2_getChar_3b067 0 = .ok (.getstatic 44, 3) := by decide +kernel
theorem dJ2_getChar_3b067_3 : decode cJ2_getChar_3b067 3 = .ok (.ifCond .ne 25, 3) := by decide +kernel
theorem dJ2_getChar_3b067_6 : decode cJ2_getChar_3b067 6 = .ok (.iload_n 1, 1) := by decide +kernel
theorem dJ2_getChar_3b067_7 : decode cJ2_getChar_3b067 7 = .ok (.ifCond .lt 11, 3) := by decide +kernel
theorem dJ2_getChar_3b067_10 : decode cJ2_getChar_3b067 10 = .ok (.iload_n 1, 1) := by decide +kernel
theorem dJ2_getChar_3b067_11 : decode cJ2_getChar_3b067 11 = .ok (.aload_n 0, 1) := by decide +kernel
theorem dJ2_getChar_3b067_12 : decode cJ2_getChar_3b067 12 = .ok (.invokestatic 48, 3) := by decide +kernel
theorem dJ2_getChar_3b067_15 : decode cJ2_getChar_3b067 15 = .ok (.if_icmp .lt 13, 3) := by decide +kernel
theorem dJ2_getChar_3b067_18 : decode cJ2_getChar_3b067 18 = .ok (.new 52, 3) := by decide +kernel
theorem dJ2_getChar_3b067_21 : decode cJ2_getChar_3b067 21 = .ok (.dup, 1) := by decide +kernel
theorem dJ2_getChar_3b067_22 : decode cJ2_getChar_3b067 22 = .ok (.ldc 54, 2) := by decide +kernel
theorem dJ2_getChar_3b067_24 : decode cJ2_getChar_3b067 24 = .ok (.invokespecial 56, 3) := by decide +kernel
theorem dJ2_getChar_3b067_27 : decode cJ2_getChar_3b067 27 = .ok (.athrow, 1) := by decide +kernel
theorem dJ2_getChar_3b067_28 : decode cJ2_getChar_3b067 28 = .ok (.iload_n 1, 1) := by decide +kernel
theorem dJ2_getChar_3b067_29 : decode cJ2_getChar_3b067 29 = .ok (.iconst 1, 1) := by decide +kernel
theorem dJ2_getChar_3b067_30 : decode cJ2_getChar_3b067 30 = .ok (.ishl, 1) := by decide +kernel
theorem dJ2_getChar_3b067_31 : decode cJ2_getChar_3b067 31 = .ok (.istore_n 1, 1) := by decide +kernel
theorem dJ2_getChar_3b067_32 : decode cJ2_getChar_3b067 32 = .ok (.aload_n 0, 1) := by decide +kernel
theorem dJ2_getChar_3b067_33 : decode cJ2_getChar_3b067 33 = .ok (.iload_n 1, 1) := by decide +kernel
theorem dJ2_getChar_3b067_34 : decode cJ2_getChar_3b067 34 = .ok (.iinc 1 1, 3) := by decide +kernel
theorem dJ2_getChar_3b067_37 : decode cJ2_getChar_3b067 37 = .ok (.baload, 1) := by decide +kernel
theorem dJ2_getChar_3b067_38 : decode cJ2_getChar_3b067 38 = .ok (.sipush 255, 3) := by decide +kernel
theorem dJ2_getChar_3b067_41 : decode cJ2_getChar_3b067 41 = .ok (.iand, 1) := by decide +kernel
theorem dJ2_getChar_3b067_42 : decode cJ2_getChar_3b067 42 = .ok (.getstatic 59, 3) := by decide +kernel
theorem dJ2_getChar_3b067_45 : decode cJ2_getChar_3b067 45 = .ok (.ishl, 1) := by decide +kernel
theorem dJ2_getChar_3b067_46 : decode cJ2_getChar_3b067 46 = .ok (.aload_n 0, 1) := by decide +kernel
theorem dJ2_getChar_3b067_47 : decode cJ2_getChar_3b067 47 = .ok (.iload_n 1, 1) := by decide +kernel
theorem dJ2_getChar_3b067_48 : decode cJ2_getChar_3b067 48 = .ok (.baload, 1) := by decide +kernel
theorem dJ2_getChar_3b067_49 : decode cJ2_getChar_3b067 49 = .ok (.sipush 255, 3) := by decide +kernel
theorem dJ2_getChar_3b067_52 : decode cJ2_getChar_3b067 52 = .ok (.iand, 1) := by decide +kernel
theorem dJ2_getChar_3b067_53 : decode cJ2_getChar_3b067 53 = .ok (.getstatic 63, 3) := by decide +kernel
theorem dJ2_getChar_3b067_56 : decode cJ2_getChar_3b067 56 = .ok (.ishl, 1) := by decide +kernel
theorem dJ2_getChar_3b067_57 : decode cJ2_getChar_3b067 57 = .ok (.ior, 1) := by decide +kernel
theorem dJ2_getChar_3b067_58 : decode cJ2_getChar_3b067 58 = .ok (.i2c, 1) := by decide +kernel
theorem dJ2_getChar_3b067_59 : decode cJ2_getChar_3b067 59 = .ok (.ireturn, 1) := by decide +kernel
theorem dJ2_length_9d52b_0 : decode cJ2_length_9d52b 0 = .ok (.aload_n 0, 1) := by decide +kernel
theorem dJ2_length_9d52b_1 : decode cJ2_length_9d52b 1 = .ok (.arraylength, 1) := by decide +kernel
theorem dJ2_length_9d52b_2 : decode cJ2_length_9d52b 2 = .ok (.iconst 1, 1) := by decide +kernel
theorem dJ2_length_9d52b_3 : decode cJ2_length_9d52b 3 = .ok (.ishr, 1) := by decide +kernel
theorem dJ2_length_9d52b_4 : decode cJ2_length_9d52b 4 = .ok (.ireturn, 1) := by decide +kernel
theorem dJ2_charAt_3b067_0 : decode cJ2_charAt_3b067 0 = .ok (.iload_n 1, 1) := by decide +kernel
theorem dJ2_charAt_3b067_1 : decode cJ2_charAt_3b067 1 = .ok (.aload_n 0, 1) := by decide +kernel
theorem dJ2_charAt_3b067_2 : decode cJ2_charAt_3b067 2 = .ok (.invokestatic 67, 3) := by decide +kernel
theorem dJ2_charAt_3b067_5 : decode cJ2_charAt_3b067 5 = .ok (.aload_n 0, 1) := by decide +kernel
theorem dJ2_charAt_3b067_6 : decode cJ2_charAt_3b067 6 = .ok (.iload_n 1, 1) := by decide +kernel
theorem dJ2_charAt_3b067_7 : decode cJ2_charAt_3b067 7 = .ok (.invokestatic 71, 3) := by decide +kernel
theorem dJ2_charAt_3b067_10 : decode cJ2_charAt_3b067 10 = .ok (.ireturn, 1) := by decide +kernel
theorem dJ2_checkIndex_2214a_0 : decode cJ2_checkIndex_2214a 0 = .ok (.iload_n 0, 1) := by decide +kernel
theorem dJ2_checkIndex_2214a_1 : decode cJ2_checkIndex_2214a 1 = .ok (.aload_n 1, 1) := by decide +kernel
theorem dJ2_checkIndex_2214a_2 : decode cJ2_checkIndex_2214a 2 = .ok (.invokestatic 48, 3) := by decide +kernel
theorem dJ2_checkIndex_2214a_5 : decode cJ2_checkIndex_2214a 5 = .ok (.invokestatic 414, 3) := by decide +kernel
theorem dJ2_checkIndex_2214a_8 : decode cJ2_checkIndex_2214a 8 = .ok (.return_, 1) := by decide +kernel
theorem dJ3_checkIndex_8e157_0 : decode cJ3_checkIndex_8e157 0 = .ok (.iload_n 0, 1) := by decide +kernel
theorem dJ3_checkIndex_8e157_1 : decode cJ3_checkIndex_8e157 1 = .ok (.ifCond .lt 8, 3) := by decide +kernel
theorem dJ3_checkIndex_8e157_4 : decode cJ3_checkIndex_8e157 4 = .ok (.iload_n 0, 1) := by decide +kernel
theorem dJ3_checkIndex_8e157_5 : decode cJ3_checkIndex_8e157 5 = .ok (.iload_n 1, 1) := by decide +kernel
theorem dJ3_checkIndex_8e157_6 : decode cJ3_checkIndex_8e157 6 = .ok (.if_icmp .lt 10, 3) := by decide +kernel
theorem dJ3_checkIndex_8e157_9 : decode cJ3_checkIndex_8e157 9 = .ok (.aload_n 2, 1) := by decide +kernel
theorem dJ3_checkIndex_8e157_10 : decode cJ3_checkIndex_8e157 10 = .ok (.iload_n 0, 1) := by decide +kernel
theorem dJ3_checkIndex_8e157_11 : decode cJ3_checkIndex_8e157 11 = .ok (.iload_n 1, 1) := by decide +kernel
theorem dJ3_checkIndex_8e157_12 : decode cJ3_checkIndex_8e157 12 = .ok (.invokestatic 95, 3) := by decide +kernel
theorem dJ3_checkIndex_8e157_15 : decode cJ3_checkIndex_8e157 15 = .ok (.athrow, 1) := by decide +kernel
theorem dJ3_checkIndex_8e157_16 : decode cJ3_checkIndex_8e157 16 = .ok (.iload_n 0, 1) := by decide +kernel
theorem dJ3_checkIndex_8e157_17 : decode cJ3_checkIndex_8e157 17 = .ok (.ireturn, 1) := by decide +kernel
theorem dL_isReleased_0 : decode cL_isReleased 0 = .ok (.aload_n 2, 1) := by decide +kernel
theorem dL_isReleased_1 : decode cL_isReleased 1 = .ok (.iconst 0, 1) := by decide +kernel
theorem dL_isReleased_2 : decode cL_isReleased 2 = .ok (.aload_n 0, 1) := by decide +kernel
theorem dL_isReleased_3 : decode cL_isReleased 3 = .ok (.iload_n 1, 1) := by decide +kernel
theorem dL_isReleased_4 : decode cL_isReleased 4 = .ok (.invokevirtual 7, 3) := by decide +kernel
theorem dL_isReleased_7 : decode cL_isReleased 7 = .ok (.ifCond .eq 7, 3) := by decide +kernel
theorem dL_isReleased_10 : decode cL_isReleased 10 = .ok (.lconst 1, 1) := by decide +kernel
theorem dL_isReleased_11 : decode cL_isReleased 11 = .ok (.goto 4, 3) := by decide +kernel
theorem dL_isReleased_14 : decode cL_isReleased 14 = .ok (.lconst 0, 1) := by decide +kernel
theorem dL_isReleased_15 : decode cL_isReleased 15 = .ok (.lastore, 1) := by decide +kernel
theorem dL_isReleased_16 : decode cL_isReleased 16 = .ok (.goto 6, 3) := by decide +kernel
theorem dL_isReleased_19 : decode cL_isReleased 19 = .ok (.astore_n 3, 1) := by decide +kernel
theorem dL_isReleased_20 : decode cL_isReleased 20 = .ok (.iconst 1, 1) := by decide +kernel
theorem dL_isReleased_21 : decode cL_isReleased 21 = .ok (.ireturn, 1) := by decide +kernel
theorem dL_isReleased_22 : decode cL_isReleased 22 = .ok (.iconst 0, 1) := by decide +kernel
theorem dL_isReleased_23 : decode cL_isReleased 23 = .ok (.ireturn, 1) := by decide +kernel
theorem dL_parentOf_0 : decode cL_parentOf 0 = .ok (.aload_n 2, 1) := by decide +kernel
theorem dL_parentOf_1 : decode cL_parentOf 1 = .ok (.iconst 0, 1) := by decide +kernel
theorem dL_parentOf_2 : decode cL_parentOf 2 = .ok (.aload_n 0, 1) := by decide +kernel
theorem dL_parentOf_3 : decode cL_parentOf 3 = .ok (.iload_n 1, 1) := by decide +kernel
theorem dL_parentOf_4 : decode cL_parentOf 4 = .ok (.invokevirtual 15, 3) := by decide +kernel
theorem dL_parentOf_7 : decode cL_parentOf 7 = .ok (.i2l, 1) := by decide +kernel
theorem dL_parentOf_8 : decode cL_parentOf 8 = .ok (.lastore, 1) := by decide +kernel
theorem dL_parentOf_9 : decode cL_parentOf 9 = .ok (.goto 6, 3) := by decide +kernel
theorem dL_parentOf_12 : decode cL_parentOf 12 = .ok (.astore_n 3, 1) := by decide +kernel
theorem dL_parentOf_13 : decode cL_parentOf 13 = .ok (.iconst 1, 1) := by decide +kernel
theorem dL_parentOf_14 : decode cL_parentOf 14 = .ok (.ireturn, 1) := by decide +kernel
theorem dL_parentOf_15 : decode cL_parentOf 15 = .ok (.iconst 0, 1) := by decide +kernel
theorem dL_parentOf_16 : decode cL_parentOf 16 = .ok (.ireturn, 1) := by decide +kernel
theorem dL_depthOf_0 : decode cL_depthOf 0 = .ok (.aload_n 2, 1) := by decide +kernel
theorem dL_depthOf_1 : decode cL_depthOf 1 = .ok (.iconst 0, 1) := by decide +kernel
theorem dL_depthOf_2 : decode cL_depthOf 2 = .ok (.aload_n 0, 1) := by decide +kernel
theorem dL_depthOf_3 : decode cL_depthOf 3 = .ok (.iload_n 1, 1) := by decide +kernel
theorem dL_depthOf_4 : decode cL_depthOf 4 = .ok (.invokevirtual 19, 3) := by decide +kernel
theorem dL_depthOf_7 : decode cL_depthOf 7 = .ok (.i2l, 1) := by decide +kernel
theorem dL_depthOf_8 : decode cL_depthOf 8 = .ok (.lastore, 1) := by decide +kernel
theorem dL_depthOf_9 : decode cL_depthOf 9 = .ok (.goto 6, 3) := by decide +kernel
theorem dL_depthOf_12 : decode cL_depthOf 12 = .ok (.astore_n 3, 1) := by decide +kernel
theorem dL_depthOf_13 : decode cL_depthOf 13 = .ok (.iconst 1, 1) := by decide +kernel
theorem dL_depthOf_14 : decode cL_depthOf 14 = .ok (.ireturn, 1) := by decide +kernel
theorem dL_depthOf_15 : decode cL_depthOf 15 = .ok (.iconst 0, 1) := by decide +kernel
theorem dL_depthOf_16 : decode cL_depthOf 16 = .ok (.ireturn, 1) := by decide +kernel
theorem dL_childCount_0 : decode cL_childCount 0 = .ok (.aload_n 2, 1) := by decide +kernel
theorem dL_childCount_1 : decode cL_childCount 1 = .ok (.iconst 0, 1) := by decide +kernel
theorem dL_childCount_2 : decode cL_childCount 2 = .ok (.aload_n 0, 1) := by decide +kernel
theorem dL_childCount_3 : decode cL_childCount 3 = .ok (.iload_n 1, 1) := by decide +kernel
theorem dL_childCount_4 : decode cL_childCount 4 = .ok (.invokevirtual 22, 3) := by decide +kernel
theorem dL_childCount_7 : decode cL_childCount 7 = .ok (.i2l, 1) := by decide +kernel
theorem dL_childCount_8 : decode cL_childCount 8 = .ok (.lastore, 1) := by decide +kernel
theorem dL_childCount_9 : decode cL_childCount 9 = .ok (.goto 6, 3) := by decide +kernel
theorem dL_childCount_12 : decode cL_childCount 12 = .ok (.astore_n 3, 1) := by decide +kernel
theorem dL_childCount_13 : decode cL_childCount 13 = .ok (.iconst 1, 1) := by decide +kernel
theorem dL_childCount_14 : decode cL_childCount 14 = .ok (.ireturn, 1) := by decide +kernel
theorem dL_childCount_15 : decode cL_childCount 15 = .ok (.iconst 0, 1) := by decide +kernel
theorem dL_childCount_16 : decode cL_childCount 16 = .ok (.ireturn, 1) := by decide +kernel
theorem dL_commonAncestor_0 : decode cL_commonAncestor 0 = .ok (.aload_n 3, 1) := by decide +kernel
theorem dL_commonAncestor_1 : decode cL_commonAncestor 1 = .ok (.iconst 0, 1) := by decide +kernel
theorem dL_commonAncestor_2 : decode cL_commonAncestor 2 = .ok (.aload_n 0, 1) := by decide +kernel
theorem dL_commonAncestor_3 : decode cL_commonAncestor 3 = .ok (.iload_n 1, 1) := by decide +kernel
theorem dL_commonAncestor_4 : decode cL_commonAncestor 4 = .ok (.iload_n 2, 1) := by decide +kernel
theorem dL_commonAncestor_5 : decode cL_commonAncestor 5 = .ok (.invokevirtual 25, 3) := by decide +kernel
theorem dL_commonAncestor_8 : decode cL_commonAncestor 8 = .ok (.i2l, 1) := by decide +kernel
theorem dL_commonAncestor_9 : decode cL_commonAncestor 9 = .ok (.lastore, 1) := by decide +kernel
theorem dL_commonAncestor_10 : decode cL_commonAncestor 10 = .ok (.goto 7, 3) := by decide +kernel
theorem dL_commonAncestor_13 : decode cL_commonAncestor 13 = .ok (.astore 4, 2) := by decide +kernel
theorem dL_commonAncestor_15 : decode cL_commonAncestor 15 = .ok (.iconst 1, 1) := by decide +kernel
theorem dL_commonAncestor_16 : decode cL_commonAncestor 16 = .ok (.ireturn, 1) := by decide +kernel
theorem dL_commonAncestor_17 : decode cL_commonAncestor 17 = .ok (.iconst 0, 1) := by decide +kernel
theorem dL_commonAncestor_18 : decode cL_commonAncestor 18 = .ok (.ireturn, 1) := by decide +kernel
theorem dL_size_0 : decode cL_size 0 = .ok (.aload_n 2, 1) := by decide +kernel
theorem dL_size_1 : decode cL_size 1 = .ok (.iconst 0, 1) := by decide +kernel
theorem dL_size_2 : decode cL_size 2 = .ok (.aload_n 0, 1) := by decide +kernel
theorem dL_size_3 : decode cL_size 3 = .ok (.iload_n 1, 1) := by decide +kernel
theorem dL_size_4 : decode cL_size 4 = .ok (.invokevirtual 29, 3) := by decide +kernel
theorem dL_size_7 : decode cL_size 7 = .ok (.i2l, 1) := by decide +kernel
theorem dL_size_8 : decode cL_size 8 = .ok (.lastore, 1) := by decide +kernel
theorem dL_size_9 : decode cL_size 9 = .ok (.goto 9, 3) := by decide +kernel
theorem dL_size_12 : decode cL_size 12 = .ok (.astore_n 3, 1) := by decide +kernel
theorem dL_size_13 : decode cL_size 13 = .ok (.iconst 1, 1) := by decide +kernel
theorem dL_size_14 : decode cL_size 14 = .ok (.ireturn, 1) := by decide +kernel
theorem dL_size_15 : decode cL_size 15 = .ok (.astore_n 3, 1) := by decide +kernel
theorem dL_size_16 : decode cL_size 16 = .ok (.iconst 2, 1) := by decide +kernel
theorem dL_size_17 : decode cL_size 17 = .ok (.ireturn, 1) := by decide +kernel
theorem dL_size_18 : decode cL_size 18 = .ok (.iconst 0, 1) := by decide +kernel
theorem dL_size_19 : decode cL_size 19 = .ok (.ireturn, 1) := by decide +kernel
theorem dL_height_0 : decode cL_height 0 = .ok (.aload_n 2, 1) := by decide +kernel
theorem dL_height_1 : decode cL_height 1 = .ok (.iconst 0, 1) := by decide +kernel
theorem dL_height_2 : decode cL_height 2 = .ok (.aload_n 0, 1) := by decide +kernel
theorem dL_height_3 : decode cL_height 3 = .ok (.iload_n 1, 1) := by decide +kernel
theorem dL_height_4 : decode cL_height 4 = .ok (.invokevirtual 34, 3) := by decide +kernel
theorem dL_height_7 : decode cL_height 7 = .ok (.i2l, 1) := by decide +kernel
theorem dL_height_8 : decode cL_height 8 = .ok (.lastore, 1) := by decide +kernel
theorem dL_height_9 : decode cL_height 9 = .ok (.goto 9, 3) := by decide +kernel
theorem dL_height_12 : decode cL_height 12 = .ok (.astore_n 3, 1) := by decide +kernel
theorem dL_height_13 : decode cL_height 13 = .ok (.iconst 1, 1) := by decide +kernel
theorem dL_height_14 : decode cL_height 14 = .ok (.ireturn, 1) := by decide +kernel
theorem dL_height_15 : decode cL_height 15 = .ok (.astore_n 3, 1) := by decide +kernel
theorem dL_height_16 : decode cL_height 16 = .ok (.iconst 2, 1) := by decide +kernel
theorem dL_height_17 : decode cL_height 17 = .ok (.ireturn, 1) := by decide +kernel
theorem dL_height_18 : decode cL_height 18 = .ok (.iconst 0, 1) := by decide +kernel
theorem dL_height_19 : decode cL_height 19 = .ok (.ireturn, 1) := by decide +kernel
theorem dL_rootOf_0 : decode cL_rootOf 0 = .ok (.aload_n 2, 1) := by decide +kernel
theorem dL_rootOf_1 : decode cL_rootOf 1 = .ok (.iconst 0, 1) := by decide +kernel
theorem dL_rootOf_2 : decode cL_rootOf 2 = .ok (.aload_n 0, 1) := by decide +kernel
theorem dL_rootOf_3 : decode cL_rootOf 3 = .ok (.iload_n 1, 1) := by decide +kernel
theorem dL_rootOf_4 : decode cL_rootOf 4 = .ok (.invokevirtual 37, 3) := by decide +kernel
theorem dL_rootOf_7 : decode cL_rootOf 7 = .ok (.i2l, 1) := by decide +kernel
theorem dL_rootOf_8 : decode cL_rootOf 8 = .ok (.lastore, 1) := by decide +kernel
theorem dL_rootOf_9 : decode cL_rootOf 9 = .ok (.goto 9, 3) := by decide +kernel
theorem dL_rootOf_12 : decode cL_rootOf 12 = .ok (.astore_n 3, 1) := by decide +kernel
theorem dL_rootOf_13 : decode cL_rootOf 13 = .ok (.iconst 1, 1) := by decide +kernel
theorem dL_rootOf_14 : decode cL_rootOf 14 = .ok (.ireturn, 1) := by decide +kernel
theorem dL_rootOf_15 : decode cL_rootOf 15 = .ok (.astore_n 3, 1) := by decide +kernel
theorem dL_rootOf_16 : decode cL_rootOf 16 = .ok (.iconst 2, 1) := by decide +kernel
theorem dL_rootOf_17 : decode cL_rootOf 17 = .ok (.ireturn, 1) := by decide +kernel
theorem dL_rootOf_18 : decode cL_rootOf 18 = .ok (.iconst 0, 1) := by decide +kernel
theorem dL_rootOf_19 : decode cL_rootOf 19 = .ok (.ireturn, 1) := by decide +kernel
theorem dL_get_0 : decode cL_get 0 = .ok (.aload_n 3, 1) := by decide +kernel
theorem dL_get_1 : decode cL_get 1 = .ok (.iconst 0, 1) := by decide +kernel
theorem dL_get_2 : decode cL_get 2 = .ok (.aload_n 0, 1) := by decide +kernel
theorem dL_get_3 : decode cL_get 3 = .ok (.iload_n 1, 1) := by decide +kernel
theorem dL_get_4 : decode cL_get 4 = .ok (.iload_n 2, 1) := by decide +kernel
theorem dL_get_5 : decode cL_get 5 = .ok (.invokevirtual 40, 3) := by decide +kernel
theorem dL_get_8 : decode cL_get 8 = .ok (.i2l, 1) := by decide +kernel
theorem dL_get_9 : decode cL_get 9 = .ok (.lastore, 1) := by decide +kernel
theorem dL_get_10 : decode cL_get 10 = .ok (.goto 11, 3) := by decide +kernel
theorem dL_get_13 : decode cL_get 13 = .ok (.astore 4, 2) := by decide +kernel
theorem dL_get_15 : decode cL_get 15 = .ok (.iconst 1, 1) := by decide +kernel
theorem dL_get_16 : decode cL_get 16 = .ok (.ireturn, 1) := by decide +kernel
theorem dL_get_17 : decode cL_get 17 = .ok (.astore 4, 2) := by decide +kernel
theorem dL_get_19 : decode cL_get 19 = .ok (.iconst 2, 1) := by decide +kernel
theorem dL_get_20 : decode cL_get 20 = .ok (.ireturn, 1) := by decide +kernel
theorem dL_get_21 : decode cL_get 21 = .ok (.iconst 0, 1) := by decide +kernel
theorem dL_get_22 : decode cL_get 22 = .ok (.ireturn, 1) := by decide +kernel
theorem dL_leafOf_0 : decode cL_leafOf 0 = .ok (.aload_n 3, 1) := by decide +kernel
theorem dL_leafOf_1 : decode cL_leafOf 1 = .ok (.iconst 0, 1) := by decide +kernel
theorem dL_leafOf_2 : decode cL_leafOf 2 = .ok (.aload_n 0, 1) := by decide +kernel
theorem dL_leafOf_3 : decode cL_leafOf 3 = .ok (.iload_n 1, 1) := by decide +kernel
theorem dL_leafOf_4 : decode cL_leafOf 4 = .ok (.iload_n 2, 1) := by decide +kernel
theorem dL_leafOf_5 : decode cL_leafOf 5 = .ok (.invokevirtual 43, 3) := by decide +kernel
theorem dL_leafOf_8 : decode cL_leafOf 8 = .ok (.i2l, 1) := by decide +kernel
theorem dL_leafOf_9 : decode cL_leafOf 9 = .ok (.lastore, 1) := by decide +kernel
theorem dL_leafOf_10 : decode cL_leafOf 10 = .ok (.goto 11, 3) := by decide +kernel
theorem dL_leafOf_13 : decode cL_leafOf 13 = .ok (.astore 4, 2) := by decide +kernel
theorem dL_leafOf_15 : decode cL_leafOf 15 = .ok (.iconst 1, 1) := by decide +kernel
theorem dL_leafOf_16 : decode cL_leafOf 16 = .ok (.ireturn, 1) := by decide +kernel
theorem dL_leafOf_17 : decode cL_leafOf 17 = .ok (.astore 4, 2) := by decide +kernel
theorem dL_leafOf_19 : decode cL_leafOf 19 = .ok (.iconst 2, 1) := by decide +kernel
theorem dL_leafOf_20 : decode cL_leafOf 20 = .ok (.ireturn, 1) := by decide +kernel
theorem dL_leafOf_21 : decode cL_leafOf 21 = .ok (.iconst 0, 1) := by decide +kernel
theorem dL_leafOf_22 : decode cL_leafOf 22 = .ok (.ireturn, 1) := by decide +kernel
theorem dL_sum_0 : decode cL_sum 0 = .ok (.aload_n 2, 1) := by decide +kernel
theorem dL_sum_1 : decode cL_sum 1 = .ok (.iconst 0, 1) := by decide +kernel
theorem dL_sum_2 : decode cL_sum 2 = .ok (.aload_n 0, 1) := by decide +kernel
theorem dL_sum_3 : decode cL_sum 3 = .ok (.iload_n 1, 1) := by decide +kernel
theorem dL_sum_4 : decode cL_sum 4 = .ok (.invokevirtual 46, 3) := by decide +kernel
theorem dL_sum_7 : decode cL_sum 7 = .ok (.i2l, 1) := by decide +kernel
theorem dL_sum_8 : decode cL_sum 8 = .ok (.lastore, 1) := by decide +kernel
theorem dL_sum_9 : decode cL_sum 9 = .ok (.goto 9, 3) := by decide +kernel
theorem dL_sum_12 : decode cL_sum 12 = .ok (.astore_n 3, 1) := by decide +kernel
theorem dL_sum_13 : decode cL_sum 13 = .ok (.iconst 1, 1) := by decide +kernel
theorem dL_sum_14 : decode cL_sum 14 = .ok (.ireturn, 1) := by decide +kernel
theorem dL_sum_15 : decode cL_sum 15 = .ok (.astore_n 3, 1) := by decide +kernel
theorem dL_sum_16 : decode cL_sum 16 = .ok (.iconst 2, 1) := by decide +kernel
theorem dL_sum_17 : decode cL_sum 17 = .ok (.ireturn, 1) := by decide +kernel
theorem dL_sum_18 : decode cL_sum 18 = .ok (.iconst 0, 1) := by decide +kernel
theorem dL_sum_19 : decode cL_sum 19 = .ok (.ireturn, 1) := by decide +kernel
theorem dL_indexOf_0 : decode cL_indexOf 0 = .ok (.aload_n 3, 1) := by decide +kernel
theorem dL_indexOf_1 : decode cL_indexOf 1 = .ok (.iconst 0, 1) := by decide +kernel
theorem dL_indexOf_2 : decode cL_indexOf 2 = .ok (.aload_n 0, 1) := by decide +kernel
theorem dL_indexOf_3 : decode cL_indexOf 3 = .ok (.iload_n 1, 1) := by decide +kernel
theorem dL_indexOf_4 : decode cL_indexOf 4 = .ok (.iload_n 2, 1) := by decide +kernel
theorem dL_indexOf_5 : decode cL_indexOf 5 = .ok (.invokevirtual 49, 3) := by decide +kernel
theorem dL_indexOf_8 : decode cL_indexOf 8 = .ok (.i2l, 1) := by decide +kernel
theorem dL_indexOf_9 : decode cL_indexOf 9 = .ok (.lastore, 1) := by decide +kernel
theorem dL_indexOf_10 : decode cL_indexOf 10 = .ok (.goto 11, 3) := by decide +kernel
theorem dL_indexOf_13 : decode cL_indexOf 13 = .ok (.astore 4, 2) := by decide +kernel
theorem dL_indexOf_15 : decode cL_indexOf 15 = .ok (.iconst 1, 1) := by decide +kernel
theorem dL_indexOf_16 : decode cL_indexOf 16 = .ok (.ireturn, 1) := by decide +kernel
theorem dL_indexOf_17 : decode cL_indexOf 17 = .ok (.astore 4, 2) := by decide +kernel
theorem dL_indexOf_19 : decode cL_indexOf 19 = .ok (.iconst 2, 1) := by decide +kernel
theorem dL_indexOf_20 : decode cL_indexOf 20 = .ok (.ireturn, 1) := by decide +kernel
theorem dL_indexOf_21 : decode cL_indexOf 21 = .ok (.iconst 0, 1) := by decide +kernel
theorem dL_indexOf_22 : decode cL_indexOf 22 = .ok (.ireturn, 1) := by decide +kernel
theorem dL_nodesCreatedFor_0 : decode cL_nodesCreatedFor 0 = .ok (.aload_n 2, 1) := by decide +kernel
theorem dL_nodesCreatedFor_1 : decode cL_nodesCreatedFor 1 = .ok (.iconst 0, 1) := by decide +kernel
theorem dL_nodesCreatedFor_2 : decode cL_nodesCreatedFor 2 = .ok (.aload_n 0, 1) := by decide +kernel
theorem dL_nodesCreatedFor_3 : decode cL_nodesCreatedFor 3 = .ok (.iload_n 1, 1) := by decide +kernel
theorem dL_nodesCreatedFor_4 : decode cL_nodesCreatedFor 4 = .ok (.invokevirtual 52, 3) := by decide +kernel
theorem dL_nodesCreatedFor_7 : decode cL_nodesCreatedFor 7 = .ok (.i2l, 1) := by decide +kernel
theorem dL_nodesCreatedFor_8 : decode cL_nodesCreatedFor 8 = .ok (.lastore, 1) := by decide +kernel
theorem dL_nodesCreatedFor_9 : decode cL_nodesCreatedFor 9 = .ok (.goto 6, 3) := by decide +kernel
theorem dL_nodesCreatedFor_12 : decode cL_nodesCreatedFor 12 = .ok (.astore_n 3, 1) := by decide +kernel
theorem dL_nodesCreatedFor_13 : decode cL_nodesCreatedFor 13 = .ok (.iconst 1, 1) := by decide +kernel
theorem dL_nodesCreatedFor_14 : decode cL_nodesCreatedFor 14 = .ok (.ireturn, 1) := by decide +kernel
theorem dL_nodesCreatedFor_15 : decode cL_nodesCreatedFor 15 = .ok (.iconst 0, 1) := by decide +kernel
theorem dL_nodesCreatedFor_16 : decode cL_nodesCreatedFor 16 = .ok (.ireturn, 1) := by decide +kernel
theorem dL_nodesOf_0 : decode cL_nodesOf 0 = .ok (.aload_n 2, 1) := by decide +kernel
theorem dL_nodesOf_1 : decode cL_nodesOf 1 = .ok (.iconst 0, 1) := by decide +kernel
theorem dL_nodesOf_2 : decode cL_nodesOf 2 = .ok (.aload_n 0, 1) := by decide +kernel
theorem dL_nodesOf_3 : decode cL_nodesOf 3 = .ok (.iload_n 1, 1) := by decide +kernel
theorem dL_nodesOf_4 : decode cL_nodesOf 4 = .ok (.invokevirtual 55, 3) := by decide +kernel
theorem dL_nodesOf_7 : decode cL_nodesOf 7 = .ok (.i2l, 1) := by decide +kernel
theorem dL_nodesOf_8 : decode cL_nodesOf 8 = .ok (.lastore, 1) := by decide +kernel
theorem dL_nodesOf_9 : decode cL_nodesOf 9 = .ok (.goto 9, 3) := by decide +kernel
theorem dL_nodesOf_12 : decode cL_nodesOf 12 = .ok (.astore_n 3, 1) := by decide +kernel
theorem dL_nodesOf_13 : decode cL_nodesOf 13 = .ok (.iconst 1, 1) := by decide +kernel
theorem dL_nodesOf_14 : decode cL_nodesOf 14 = .ok (.ireturn, 1) := by decide +kernel
theorem dL_nodesOf_15 : decode cL_nodesOf 15 = .ok (.astore_n 3, 1) := by decide +kernel
theorem dL_nodesOf_16 : decode cL_nodesOf 16 = .ok (.iconst 2, 1) := by decide +kernel
theorem dL_nodesOf_17 : decode cL_nodesOf 17 = .ok (.ireturn, 1) := by decide +kernel
theorem dL_nodesOf_18 : decode cL_nodesOf 18 = .ok (.iconst 0, 1) := by decide +kernel
theorem dL_nodesOf_19 : decode cL_nodesOf 19 = .ok (.ireturn, 1) := by decide +kernel
theorem dL_sharedNodes_0 : decode cL_sharedNodes 0 = .ok (.aload_n 3, 1) := by decide +kernel
theorem dL_sharedNodes_1 : decode cL_sharedNodes 1 = .ok (.iconst 0, 1) := by decide +kernel
theorem dL_sharedNodes_2 : decode cL_sharedNodes 2 = .ok (.aload_n 0, 1) := by decide +kernel
theorem dL_sharedNodes_3 : decode cL_sharedNodes 3 = .ok (.iload_n 1, 1) := by decide +kernel
theorem dL_sharedNodes_4 : decode cL_sharedNodes 4 = .ok (.iload_n 2, 1) := by decide +kernel
theorem dL_sharedNodes_5 : decode cL_sharedNodes 5 = .ok (.invokevirtual 58, 3) := by decide +kernel
theorem dL_sharedNodes_8 : decode cL_sharedNodes 8 = .ok (.i2l, 1) := by decide +kernel
theorem dL_sharedNodes_9 : decode cL_sharedNodes 9 = .ok (.lastore, 1) := by decide +kernel
theorem dL_sharedNodes_10 : decode cL_sharedNodes 10 = .ok (.goto 11, 3) := by decide +kernel
theorem dL_sharedNodes_13 : decode cL_sharedNodes 13 = .ok (.astore 4, 2) := by decide +kernel
theorem dL_sharedNodes_15 : decode cL_sharedNodes 15 = .ok (.iconst 1, 1) := by decide +kernel
theorem dL_sharedNodes_16 : decode cL_sharedNodes 16 = .ok (.ireturn, 1) := by decide +kernel
theorem dL_sharedNodes_17 : decode cL_sharedNodes 17 = .ok (.astore 4, 2) := by decide +kernel
theorem dL_sharedNodes_19 : decode cL_sharedNodes 19 = .ok (.iconst 2, 1) := by decide +kernel
theorem dL_sharedNodes_20 : decode cL_sharedNodes 20 = .ok (.ireturn, 1) := by decide +kernel
theorem dL_sharedNodes_21 : decode cL_sharedNodes 21 = .ok (.iconst 0, 1) := by decide +kernel
theorem dL_sharedNodes_22 : decode cL_sharedNodes 22 = .ok (.ireturn, 1) := by decide +kernel
theorem dL_exclusiveNodes_0 : decode cL_exclusiveNodes 0 = .ok (.aload_n 2, 1) := by decide +kernel
theorem dL_exclusiveNodes_1 : decode cL_exclusiveNodes 1 = .ok (.iconst 0, 1) := by decide +kernel
theorem dL_exclusiveNodes_2 : decode cL_exclusiveNodes 2 = .ok (.aload_n 0, 1) := by decide +kernel
theorem dL_exclusiveNodes_3 : decode cL_exclusiveNodes 3 = .ok (.iload_n 1, 1) := by decide +kernel
theorem dL_exclusiveNodes_4 : decode cL_exclusiveNodes 4 = .ok (.invokevirtual 61, 3) := by decide +kernel
theorem dL_exclusiveNodes_7 : decode cL_exclusiveNodes 7 = .ok (.i2l, 1) := by decide +kernel
theorem dL_exclusiveNodes_8 : decode cL_exclusiveNodes 8 = .ok (.lastore, 1) := by decide +kernel
theorem dL_exclusiveNodes_9 : decode cL_exclusiveNodes 9 = .ok (.goto 9, 3) := by decide +kernel
theorem dL_exclusiveNodes_12 : decode cL_exclusiveNodes 12 = .ok (.astore_n 3, 1) := by decide +kernel
theorem dL_exclusiveNodes_13 : decode cL_exclusiveNodes 13 = .ok (.iconst 1, 1) := by decide +kernel
theorem dL_exclusiveNodes_14 : decode cL_exclusiveNodes 14 = .ok (.ireturn, 1) := by decide +kernel
theorem dL_exclusiveNodes_15 : decode cL_exclusiveNodes 15 = .ok (.astore_n 3, 1) := by decide +kernel
theorem dL_exclusiveNodes_16 : decode cL_exclusiveNodes 16 = .ok (.iconst 2, 1) := by decide +kernel
theorem dL_exclusiveNodes_17 : decode cL_exclusiveNodes 17 = .ok (.ireturn, 1) := by decide +kernel
theorem dL_exclusiveNodes_18 : decode cL_exclusiveNodes 18 = .ok (.iconst 0, 1) := by decide +kernel
theorem dL_exclusiveNodes_19 : decode cL_exclusiveNodes 19 = .ok (.ireturn, 1) := by decide +kernel
theorem dL_isLeaf_0 : decode cL_isLeaf 0 = .ok (.aload_n 2, 1) := by decide +kernel
theorem dL_isLeaf_1 : decode cL_isLeaf 1 = .ok (.iconst 0, 1) := by decide +kernel
theorem dL_isLeaf_2 : decode cL_isLeaf 2 = .ok (.aload_n 0, 1) := by decide +kernel
theorem dL_isLeaf_3 : decode cL_isLeaf 3 = .ok (.iload_n 1, 1) := by decide +kernel
theorem dL_isLeaf_4 : decode cL_isLeaf 4 = .ok (.invokevirtual 64, 3) := by decide +kernel
theorem dL_isLeaf_7 : decode cL_isLeaf 7 = .ok (.ifCond .eq 7, 3) := by decide +kernel
theorem dL_isLeaf_10 : decode cL_isLeaf 10 = .ok (.lconst 1, 1) := by decide +kernel
theorem dL_isLeaf_11 : decode cL_isLeaf 11 = .ok (.goto 4, 3) := by decide +kernel
theorem dL_isLeaf_14 : decode cL_isLeaf 14 = .ok (.lconst 0, 1) := by decide +kernel
theorem dL_isLeaf_15 : decode cL_isLeaf 15 = .ok (.lastore, 1) := by decide +kernel
theorem dL_isLeaf_16 : decode cL_isLeaf 16 = .ok (.goto 6, 3) := by decide +kernel
theorem dL_isLeaf_19 : decode cL_isLeaf 19 = .ok (.astore_n 3, 1) := by decide +kernel
theorem dL_isLeaf_20 : decode cL_isLeaf 20 = .ok (.iconst 1, 1) := by decide +kernel
theorem dL_isLeaf_21 : decode cL_isLeaf 21 = .ok (.ireturn, 1) := by decide +kernel
theorem dL_isLeaf_22 : decode cL_isLeaf 22 = .ok (.iconst 0, 1) := by decide +kernel
theorem dL_isLeaf_23 : decode cL_isLeaf 23 = .ok (.ireturn, 1) := by decide +kernel
theorem dL_entryCount_0 : decode cL_entryCount 0 = .ok (.aload_n 2, 1) := by decide +kernel
theorem dL_entryCount_1 : decode cL_entryCount 1 = .ok (.iconst 0, 1) := by decide +kernel
theorem dL_entryCount_2 : decode cL_entryCount 2 = .ok (.aload_n 0, 1) := by decide +kernel
theorem dL_entryCount_3 : decode cL_entryCount 3 = .ok (.iload_n 1, 1) := by decide +kernel
theorem dL_entryCount_4 : decode cL_entryCount 4 = .ok (.invokevirtual 67, 3) := by decide +kernel
theorem dL_entryCount_7 : decode cL_entryCount 7 = .ok (.i2l, 1) := by decide +kernel
theorem dL_entryCount_8 : decode cL_entryCount 8 = .ok (.lastore, 1) := by decide +kernel
theorem dL_entryCount_9 : decode cL_entryCount 9 = .ok (.goto 6, 3) := by decide +kernel
theorem dL_entryCount_12 : decode cL_entryCount 12 = .ok (.astore_n 3, 1) := by decide +kernel
theorem dL_entryCount_13 : decode cL_entryCount 13 = .ok (.iconst 1, 1) := by decide +kernel
theorem dL_entryCount_14 : decode cL_entryCount 14 = .ok (.ireturn, 1) := by decide +kernel
theorem dL_entryCount_15 : decode cL_entryCount 15 = .ok (.iconst 0, 1) := by decide +kernel
theorem dL_entryCount_16 : decode cL_entryCount 16 = .ok (.ireturn, 1) := by decide +kernel
theorem dL_childOf_0 : decode cL_childOf 0 = .ok (.aload_n 3, 1) := by decide +kernel
theorem dL_childOf_1 : decode cL_childOf 1 = .ok (.iconst 0, 1) := by decide +kernel
theorem dL_childOf_2 : decode cL_childOf 2 = .ok (.aload_n 0, 1) := by decide +kernel
theorem dL_childOf_3 : decode cL_childOf 3 = .ok (.iload_n 1, 1) := by decide +kernel
theorem dL_childOf_4 : decode cL_childOf 4 = .ok (.iload_n 2, 1) := by decide +kernel
theorem dL_childOf_5 : decode cL_childOf 5 = .ok (.invokevirtual 70, 3) := by decide +kernel
theorem dL_childOf_8 : decode cL_childOf 8 = .ok (.i2l, 1) := by decide +kernel
theorem dL_childOf_9 : decode cL_childOf 9 = .ok (.lastore, 1) := by decide +kernel
theorem dL_childOf_10 : decode cL_childOf 10 = .ok (.goto 7, 3) := by decide +kernel
theorem dL_childOf_13 : decode cL_childOf 13 = .ok (.astore 4, 2) := by decide +kernel
theorem dL_childOf_15 : decode cL_childOf 15 = .ok (.iconst 1, 1) := by decide +kernel
theorem dL_childOf_16 : decode cL_childOf 16 = .ok (.ireturn, 1) := by decide +kernel
theorem dL_childOf_17 : decode cL_childOf 17 = .ok (.iconst 0, 1) := by decide +kernel
theorem dL_childOf_18 : decode cL_childOf 18 = .ok (.ireturn, 1) := by decide +kernel
theorem dL_referencesTo_0 : decode cL_referencesTo 0 = .ok (.aload_n 2, 1) := by decide +kernel
theorem dL_referencesTo_1 : decode cL_referencesTo 1 = .ok (.iconst 0, 1) := by decide +kernel
theorem dL_referencesTo_2 : decode cL_referencesTo 2 = .ok (.aload_n 0, 1) := by decide +kernel
theorem dL_referencesTo_3 : decode cL_referencesTo 3 = .ok (.iload_n 1, 1) := by decide +kernel
theorem dL_referencesTo_4 : decode cL_referencesTo 4 = .ok (.invokevirtual 73, 3) := by decide +kernel
theorem dL_referencesTo_7 : decode cL_referencesTo 7 = .ok (.i2l, 1) := by decide +kernel
theorem dL_referencesTo_8 : decode cL_referencesTo 8 = .ok (.lastore, 1) := by decide +kernel
theorem dL_referencesTo_9 : decode cL_referencesTo 9 = .ok (.goto 6, 3) := by decide +kernel
theorem dL_referencesTo_12 : decode cL_referencesTo 12 = .ok (.astore_n 3, 1) := by decide +kernel
theorem dL_referencesTo_13 : decode cL_referencesTo 13 = .ok (.iconst 1, 1) := by decide +kernel
theorem dL_referencesTo_14 : decode cL_referencesTo 14 = .ok (.ireturn, 1) := by decide +kernel
theorem dL_referencesTo_15 : decode cL_referencesTo 15 = .ok (.iconst 0, 1) := by decide +kernel
theorem dL_referencesTo_16 : decode cL_referencesTo 16 = .ok (.ireturn, 1) := by decide +kernel
theorem dL_differences_0 : decode cL_differences 0 = .ok (.aload_n 3, 1) := by decide +kernel
theorem dL_differences_1 : decode cL_differences 1 = .ok (.iconst 0, 1) := by decide +kernel
theorem dL_differences_2 : decode cL_differences 2 = .ok (.aload_n 0, 1) := by decide +kernel
theorem dL_differences_3 : decode cL_differences 3 = .ok (.iload_n 1, 1) := by decide +kernel
theorem dL_differences_4 : decode cL_differences 4 = .ok (.iload_n 2, 1) := by decide +kernel
theorem dL_differences_5 : decode cL_differences 5 = .ok (.invokevirtual 76, 3) := by decide +kernel
theorem dL_differences_8 : decode cL_differences 8 = .ok (.i2l, 1) := by decide +kernel
theorem dL_differences_9 : decode cL_differences 9 = .ok (.lastore, 1) := by decide +kernel
theorem dL_differences_10 : decode cL_differences 10 = .ok (.goto 11, 3) := by decide +kernel
theorem dL_differences_13 : decode cL_differences 13 = .ok (.astore 4, 2) := by decide +kernel
theorem dL_differences_15 : decode cL_differences 15 = .ok (.iconst 1, 1) := by decide +kernel
theorem dL_differences_16 : decode cL_differences 16 = .ok (.ireturn, 1) := by decide +kernel
theorem dL_differences_17 : decode cL_differences 17 = .ok (.astore 4, 2) := by decide +kernel
theorem dL_differences_19 : decode cL_differences 19 = .ok (.iconst 2, 1) := by decide +kernel
theorem dL_differences_20 : decode cL_differences 20 = .ok (.ireturn, 1) := by decide +kernel
theorem dL_differences_21 : decode cL_differences 21 = .ok (.iconst 0, 1) := by decide +kernel
theorem dL_differences_22 : decode cL_differences 22 = .ok (.ireturn, 1) := by decide +kernel
theorem dL_firstDifference_0 : decode cL_firstDifference 0 = .ok (.aload_n 3, 1) := by decide +kernel
theorem dL_firstDifference_1 : decode cL_firstDifference 1 = .ok (.iconst 0, 1) := by decide +kernel
theorem dL_firstDifference_2 : decode cL_firstDifference 2 = .ok (.aload_n 0, 1) := by decide +kernel
theorem dL_firstDifference_3 : decode cL_firstDifference 3 = .ok (.iload_n 1, 1) := by decide +kernel
theorem dL_firstDifference_4 : decode cL_firstDifference 4 = .ok (.iload_n 2, 1) := by decide +kernel
theorem dL_firstDifference_5 : decode cL_firstDifference 5 = .ok (.invokevirtual 79, 3) := by decide +kernel
theorem dL_firstDifference_8 : decode cL_firstDifference 8 = .ok (.i2l, 1) := by decide +kernel
theorem dL_firstDifference_9 : decode cL_firstDifference 9 = .ok (.lastore, 1) := by decide +kernel
theorem dL_firstDifference_10 : decode cL_firstDifference 10 = .ok (.goto 11, 3) := by decide +kernel
theorem dL_firstDifference_13 : decode cL_firstDifference 13 = .ok (.astore 4, 2) := by decide +kernel
theorem dL_firstDifference_15 : decode cL_firstDifference 15 = .ok (.iconst 1, 1) := by decide +kernel
theorem dL_firstDifference_16 : decode cL_firstDifference 16 = .ok (.ireturn, 1) := by decide +kernel
theorem dL_firstDifference_17 : decode cL_firstDifference 17 = .ok (.astore 4, 2) := by decide +kernel
theorem dL_firstDifference_19 : decode cL_firstDifference 19 = .ok (.iconst 2, 1) := by decide +kernel
theorem dL_firstDifference_20 : decode cL_firstDifference 20 = .ok (.ireturn, 1) := by decide +kernel
theorem dL_firstDifference_21 : decode cL_firstDifference 21 = .ok (.iconst 0, 1) := by decide +kernel
theorem dL_firstDifference_22 : decode cL_firstDifference 22 = .ok (.ireturn, 1) := by decide +kernel
theorem dL_comparisonCost_0 : decode cL_comparisonCost 0 = .ok (.aload_n 3, 1) := by decide +kernel
theorem dL_comparisonCost_1 : decode cL_comparisonCost 1 = .ok (.iconst 0, 1) := by decide +kernel
theorem dL_comparisonCost_2 : decode cL_comparisonCost 2 = .ok (.aload_n 0, 1) := by decide +kernel
theorem dL_comparisonCost_3 : decode cL_comparisonCost 3 = .ok (.iload_n 1, 1) := by decide +kernel
theorem dL_comparisonCost_4 : decode cL_comparisonCost 4 = .ok (.iload_n 2, 1) := by decide +kernel
theorem dL_comparisonCost_5 : decode cL_comparisonCost 5 = .ok (.invokevirtual 82, 3) := by decide +kernel
theorem dL_comparisonCost_8 : decode cL_comparisonCost 8 = .ok (.i2l, 1) := by decide +kernel
theorem dL_comparisonCost_9 : decode cL_comparisonCost 9 = .ok (.lastore, 1) := by decide +kernel
theorem dL_comparisonCost_10 : decode cL_comparisonCost 10 = .ok (.goto 11, 3) := by decide +kernel
theorem dL_comparisonCost_13 : decode cL_comparisonCost 13 = .ok (.astore 4, 2) := by decide +kernel
theorem dL_comparisonCost_15 : decode cL_comparisonCost 15 = .ok (.iconst 1, 1) := by decide +kernel
theorem dL_comparisonCost_16 : decode cL_comparisonCost 16 = .ok (.ireturn, 1) := by decide +kernel
theorem dL_comparisonCost_17 : decode cL_comparisonCost 17 = .ok (.astore 4, 2) := by decide +kernel
theorem dL_comparisonCost_19 : decode cL_comparisonCost 19 = .ok (.iconst 2, 1) := by decide +kernel
theorem dL_comparisonCost_20 : decode cL_comparisonCost 20 = .ok (.ireturn, 1) := by decide +kernel
theorem dL_comparisonCost_21 : decode cL_comparisonCost 21 = .ok (.iconst 0, 1) := by decide +kernel
theorem dL_comparisonCost_22 : decode cL_comparisonCost 22 = .ok (.ireturn, 1) := by decide +kernel
theorem dL_nodesForSet_0 : decode cL_nodesForSet 0 = .ok (.aload 4, 2) := by decide +kernel
theorem dL_nodesForSet_2 : decode cL_nodesForSet 2 = .ok (.iconst 0, 1) := by decide +kernel
theorem dL_nodesForSet_3 : decode cL_nodesForSet 3 = .ok (.aload_n 0, 1) := by decide +kernel
theorem dL_nodesForSet_4 : decode cL_nodesForSet 4 = .ok (.iload_n 1, 1) := by decide +kernel
theorem dL_nodesForSet_5 : decode cL_nodesForSet 5 = .ok (.iload_n 2, 1) := by decide +kernel
theorem dL_nodesForSet_6 : decode cL_nodesForSet 6 = .ok (.iload_n 3, 1) := by decide +kernel
theorem dL_nodesForSet_7 : decode cL_nodesForSet 7 = .ok (.invokevirtual 85, 3) := by decide +kernel
theorem dL_nodesForSet_10 : decode cL_nodesForSet 10 = .ok (.i2l, 1) := by decide +kernel
theorem dL_nodesForSet_11 : decode cL_nodesForSet 11 = .ok (.lastore, 1) := by decide +kernel
theorem dL_nodesForSet_12 : decode cL_nodesForSet 12 = .ok (.goto 15, 3) := by decide +kernel
theorem dL_nodesForSet_15 : decode cL_nodesForSet 15 = .ok (.astore 5, 2) := by decide +kernel
theorem dL_nodesForSet_17 : decode cL_nodesForSet 17 = .ok (.iconst 1, 1) := by decide +kernel
theorem dL_nodesForSet_18 : decode cL_nodesForSet 18 = .ok (.ireturn, 1) := by decide +kernel
theorem dL_nodesForSet_19 : decode cL_nodesForSet 19 = .ok (.astore 5, 2) := by decide +kernel
theorem dL_nodesForSet_21 : decode cL_nodesForSet 21 = .ok (.iconst 2, 1) := by decide +kernel
theorem dL_nodesForSet_22 : decode cL_nodesForSet 22 = .ok (.ireturn, 1) := by decide +kernel
theorem dL_nodesForSet_23 : decode cL_nodesForSet 23 = .ok (.astore 5, 2) := by decide +kernel
theorem dL_nodesForSet_25 : decode cL_nodesForSet 25 = .ok (.iconst 3, 1) := by decide +kernel
theorem dL_nodesForSet_26 : decode cL_nodesForSet 26 = .ok (.ireturn, 1) := by decide +kernel
theorem dL_nodesForSet_27 : decode cL_nodesForSet 27 = .ok (.iconst 0, 1) := by decide +kernel
theorem dL_nodesForSet_28 : decode cL_nodesForSet 28 = .ok (.ireturn, 1) := by decide +kernel
theorem dL_nodesForAppend_0 : decode cL_nodesForAppend 0 = .ok (.aload_n 2, 1) := by decide +kernel
theorem dL_nodesForAppend_1 : decode cL_nodesForAppend 1 = .ok (.iconst 0, 1) := by decide +kernel
theorem dL_nodesForAppend_2 : decode cL_nodesForAppend 2 = .ok (.aload_n 0, 1) := by decide +kernel
theorem dL_nodesForAppend_3 : decode cL_nodesForAppend 3 = .ok (.iload_n 1, 1) := by decide +kernel
theorem dL_nodesForAppend_4 : decode cL_nodesForAppend 4 = .ok (.invokevirtual 91, 3) := by decide +kernel
theorem dL_nodesForAppend_7 : decode cL_nodesForAppend 7 = .ok (.i2l, 1) := by decide +kernel
theorem dL_nodesForAppend_8 : decode cL_nodesForAppend 8 = .ok (.lastore, 1) := by decide +kernel
theorem dL_nodesForAppend_9 : decode cL_nodesForAppend 9 = .ok (.goto 9, 3) := by decide +kernel
theorem dL_nodesForAppend_12 : decode cL_nodesForAppend 12 = .ok (.astore_n 3, 1) := by decide +kernel
theorem dL_nodesForAppend_13 : decode cL_nodesForAppend 13 = .ok (.iconst 1, 1) := by decide +kernel
theorem dL_nodesForAppend_14 : decode cL_nodesForAppend 14 = .ok (.ireturn, 1) := by decide +kernel
theorem dL_nodesForAppend_15 : decode cL_nodesForAppend 15 = .ok (.astore_n 3, 1) := by decide +kernel
theorem dL_nodesForAppend_16 : decode cL_nodesForAppend 16 = .ok (.iconst 2, 1) := by decide +kernel
theorem dL_nodesForAppend_17 : decode cL_nodesForAppend 17 = .ok (.ireturn, 1) := by decide +kernel
theorem dL_nodesForAppend_18 : decode cL_nodesForAppend 18 = .ok (.iconst 0, 1) := by decide +kernel
theorem dL_nodesForAppend_19 : decode cL_nodesForAppend 19 = .ok (.ireturn, 1) := by decide +kernel
theorem dL_garbageIfReleased_0 : decode cL_garbageIfReleased 0 = .ok (.aload_n 2, 1) := by decide +kernel
theorem dL_garbageIfReleased_1 : decode cL_garbageIfReleased 1 = .ok (.iconst 0, 1) := by decide +kernel
theorem dL_garbageIfReleased_2 : decode cL_garbageIfReleased 2 = .ok (.aload_n 0, 1) := by decide +kernel
theorem dL_garbageIfReleased_3 : decode cL_garbageIfReleased 3 = .ok (.iload_n 1, 1) := by decide +kernel
theorem dL_garbageIfReleased_4 : decode cL_garbageIfReleased 4 = .ok (.invokevirtual 94, 3) := by decide +kernel
theorem dL_garbageIfReleased_7 : decode cL_garbageIfReleased 7 = .ok (.i2l, 1) := by decide +kernel
theorem dL_garbageIfReleased_8 : decode cL_garbageIfReleased 8 = .ok (.lastore, 1) := by decide +kernel
theorem dL_garbageIfReleased_9 : decode cL_garbageIfReleased 9 = .ok (.goto 9, 3) := by decide +kernel
theorem dL_garbageIfReleased_12 : decode cL_garbageIfReleased 12 = .ok (.astore_n 3, 1) := by decide +kernel
theorem dL_garbageIfReleased_13 : decode cL_garbageIfReleased 13 = .ok (.iconst 1, 1) := by decide +kernel
theorem dL_garbageIfReleased_14 : decode cL_garbageIfReleased 14 = .ok (.ireturn, 1) := by decide +kernel
theorem dL_garbageIfReleased_15 : decode cL_garbageIfReleased 15 = .ok (.astore_n 3, 1) := by decide +kernel
theorem dL_garbageIfReleased_16 : decode cL_garbageIfReleased 16 = .ok (.iconst 2, 1) := by decide +kernel
theorem dL_garbageIfReleased_17 : decode cL_garbageIfReleased 17 = .ok (.ireturn, 1) := by decide +kernel
theorem dL_garbageIfReleased_18 : decode cL_garbageIfReleased 18 = .ok (.iconst 0, 1) := by decide +kernel
theorem dL_garbageIfReleased_19 : decode cL_garbageIfReleased 19 = .ok (.ireturn, 1) := by decide +kernel
theorem dL_set_0 : decode cL_set 0 = .ok (.aload 4, 2) := by decide +kernel
theorem dL_set_2 : decode cL_set 2 = .ok (.iconst 0, 1) := by decide +kernel
theorem dL_set_3 : decode cL_set 3 = .ok (.aload_n 0, 1) := by decide +kernel
theorem dL_set_4 : decode cL_set 4 = .ok (.iload_n 1, 1) := by decide +kernel
theorem dL_set_5 : decode cL_set 5 = .ok (.iload_n 2, 1) := by decide +kernel
theorem dL_set_6 : decode cL_set 6 = .ok (.iload_n 3, 1) := by decide +kernel
theorem dL_set_7 : decode cL_set 7 = .ok (.invokevirtual 97, 3) := by decide +kernel
theorem dL_set_10 : decode cL_set 10 = .ok (.i2l, 1) := by decide +kernel
theorem dL_set_11 : decode cL_set 11 = .ok (.lastore, 1) := by decide +kernel
theorem dL_set_12 : decode cL_set 12 = .ok (.goto 15, 3) := by decide +kernel
theorem dL_set_15 : decode cL_set 15 = .ok (.astore 5, 2) := by decide +kernel
theorem dL_set_17 : decode cL_set 17 = .ok (.iconst 1, 1) := by decide +kernel
theorem dL_set_18 : decode cL_set 18 = .ok (.ireturn, 1) := by decide +kernel
theorem dL_set_19 : decode cL_set 19 = .ok (.astore 5, 2) := by decide +kernel
theorem dL_set_21 : decode cL_set 21 = .ok (.iconst 2, 1) := by decide +kernel
theorem dL_set_22 : decode cL_set 22 = .ok (.ireturn, 1) := by decide +kernel
theorem dL_set_23 : decode cL_set 23 = .ok (.astore 5, 2) := by decide +kernel
theorem dL_set_25 : decode cL_set 25 = .ok (.iconst 3, 1) := by decide +kernel
theorem dL_set_26 : decode cL_set 26 = .ok (.ireturn, 1) := by decide +kernel
theorem dL_set_27 : decode cL_set 27 = .ok (.iconst 0, 1) := by decide +kernel
theorem dL_set_28 : decode cL_set 28 = .ok (.ireturn, 1) := by decide +kernel
theorem dL_append_0 : decode cL_append 0 = .ok (.aload_n 3, 1) := by decide +kernel
theorem dL_append_1 : decode cL_append 1 = .ok (.iconst 0, 1) := by decide +kernel
theorem dL_append_2 : decode cL_append 2 = .ok (.aload_n 0, 1) := by decide +kernel
theorem dL_append_3 : decode cL_append 3 = .ok (.iload_n 1, 1) := by decide +kernel
theorem dL_append_4 : decode cL_append 4 = .ok (.iload_n 2, 1) := by decide +kernel
theorem dL_append_5 : decode cL_append 5 = .ok (.invokevirtual 100, 3) := by decide +kernel
theorem dL_append_8 : decode cL_append 8 = .ok (.i2l, 1) := by decide +kernel
theorem dL_append_9 : decode cL_append 9 = .ok (.lastore, 1) := by decide +kernel
theorem dL_append_10 : decode cL_append 10 = .ok (.goto 15, 3) := by decide +kernel
theorem dL_append_13 : decode cL_append 13 = .ok (.astore 4, 2) := by decide +kernel
theorem dL_append_15 : decode cL_append 15 = .ok (.iconst 1, 1) := by decide +kernel
theorem dL_append_16 : decode cL_append 16 = .ok (.ireturn, 1) := by decide +kernel
theorem dL_append_17 : decode cL_append 17 = .ok (.astore 4, 2) := by decide +kernel
theorem dL_append_19 : decode cL_append 19 = .ok (.iconst 2, 1) := by decide +kernel
theorem dL_append_20 : decode cL_append 20 = .ok (.ireturn, 1) := by decide +kernel
theorem dL_append_21 : decode cL_append 21 = .ok (.astore 4, 2) := by decide +kernel
theorem dL_append_23 : decode cL_append 23 = .ok (.iconst 3, 1) := by decide +kernel
theorem dL_append_24 : decode cL_append 24 = .ok (.ireturn, 1) := by decide +kernel
theorem dL_append_25 : decode cL_append 25 = .ok (.iconst 0, 1) := by decide +kernel
theorem dL_append_26 : decode cL_append 26 = .ok (.ireturn, 1) := by decide +kernel
theorem dL_truncate_0 : decode cL_truncate 0 = .ok (.aload_n 3, 1) := by decide +kernel
theorem dL_truncate_1 : decode cL_truncate 1 = .ok (.iconst 0, 1) := by decide +kernel
theorem dL_truncate_2 : decode cL_truncate 2 = .ok (.aload_n 0, 1) := by decide +kernel
theorem dL_truncate_3 : decode cL_truncate 3 = .ok (.iload_n 1, 1) := by decide +kernel
theorem dL_truncate_4 : decode cL_truncate 4 = .ok (.iload_n 2, 1) := by decide +kernel
theorem dL_truncate_5 : decode cL_truncate 5 = .ok (.invokevirtual 103, 3) := by decide +kernel
theorem dL_truncate_8 : decode cL_truncate 8 = .ok (.i2l, 1) := by decide +kernel
theorem dL_truncate_9 : decode cL_truncate 9 = .ok (.lastore, 1) := by decide +kernel
theorem dL_truncate_10 : decode cL_truncate 10 = .ok (.goto 15, 3) := by decide +kernel
theorem dL_truncate_13 : decode cL_truncate 13 = .ok (.astore 4, 2) := by decide +kernel
theorem dL_truncate_15 : decode cL_truncate 15 = .ok (.iconst 1, 1) := by decide +kernel
theorem dL_truncate_16 : decode cL_truncate 16 = .ok (.ireturn, 1) := by decide +kernel
theorem dL_truncate_17 : decode cL_truncate 17 = .ok (.astore 4, 2) := by decide +kernel
theorem dL_truncate_19 : decode cL_truncate 19 = .ok (.iconst 2, 1) := by decide +kernel
theorem dL_truncate_20 : decode cL_truncate 20 = .ok (.ireturn, 1) := by decide +kernel
theorem dL_truncate_21 : decode cL_truncate 21 = .ok (.astore 4, 2) := by decide +kernel
theorem dL_truncate_23 : decode cL_truncate 23 = .ok (.iconst 3, 1) := by decide +kernel
theorem dL_truncate_24 : decode cL_truncate 24 = .ok (.ireturn, 1) := by decide +kernel
theorem dL_truncate_25 : decode cL_truncate 25 = .ok (.iconst 0, 1) := by decide +kernel
theorem dL_truncate_26 : decode cL_truncate 26 = .ok (.ireturn, 1) := by decide +kernel
theorem dL_release_0 : decode cL_release 0 = .ok (.aload_n 2, 1) := by decide +kernel
theorem dL_release_1 : decode cL_release 1 = .ok (.iconst 0, 1) := by decide +kernel
theorem dL_release_2 : decode cL_release 2 = .ok (.aload_n 0, 1) := by decide +kernel
theorem dL_release_3 : decode cL_release 3 = .ok (.iload_n 1, 1) := by decide +kernel
theorem dL_release_4 : decode cL_release 4 = .ok (.invokevirtual 106, 3) := by decide +kernel
theorem dL_release_7 : decode cL_release 7 = .ok (.i2l, 1) := by decide +kernel
theorem dL_release_8 : decode cL_release 8 = .ok (.lastore, 1) := by decide +kernel
theorem dL_release_9 : decode cL_release 9 = .ok (.goto 9, 3) := by decide +kernel
theorem dL_release_12 : decode cL_release 12 = .ok (.astore_n 3, 1) := by decide +kernel
theorem dL_release_13 : decode cL_release 13 = .ok (.iconst 1, 1) := by decide +kernel
theorem dL_release_14 : decode cL_release 14 = .ok (.ireturn, 1) := by decide +kernel
theorem dL_release_15 : decode cL_release 15 = .ok (.astore_n 3, 1) := by decide +kernel
theorem dL_release_16 : decode cL_release 16 = .ok (.iconst 2, 1) := by decide +kernel
theorem dL_release_17 : decode cL_release 17 = .ok (.ireturn, 1) := by decide +kernel
theorem dL_release_18 : decode cL_release 18 = .ok (.iconst 0, 1) := by decide +kernel
theorem dL_release_19 : decode cL_release 19 = .ok (.ireturn, 1) := by decide +kernel
theorem dL_undo_0 : decode cL_undo 0 = .ok (.aload_n 1, 1) := by decide +kernel
theorem dL_undo_1 : decode cL_undo 1 = .ok (.iconst 0, 1) := by decide +kernel
theorem dL_undo_2 : decode cL_undo 2 = .ok (.aload_n 0, 1) := by decide +kernel
theorem dL_undo_3 : decode cL_undo 3 = .ok (.invokevirtual 109, 3) := by decide +kernel
theorem dL_undo_6 : decode cL_undo 6 = .ok (.i2l, 1) := by decide +kernel
theorem dL_undo_7 : decode cL_undo 7 = .ok (.lastore, 1) := by decide +kernel
theorem dL_undo_8 : decode cL_undo 8 = .ok (.goto 6, 3) := by decide +kernel
theorem dL_undo_11 : decode cL_undo 11 = .ok (.astore_n 2, 1) := by decide +kernel
theorem dL_undo_12 : decode cL_undo 12 = .ok (.iconst 1, 1) := by decide +kernel
theorem dL_undo_13 : decode cL_undo 13 = .ok (.ireturn, 1) := by decide +kernel
theorem dL_undo_14 : decode cL_undo 14 = .ok (.iconst 0, 1) := by decide +kernel
theorem dL_undo_15 : decode cL_undo 15 = .ok (.ireturn, 1) := by decide +kernel
theorem dL_writeVersion_0 : decode cL_writeVersion 0 = .ok (.aload_n 2, 1) := by decide +kernel
theorem dL_writeVersion_1 : decode cL_writeVersion 1 = .ok (.iconst 0, 1) := by decide +kernel
theorem dL_writeVersion_2 : decode cL_writeVersion 2 = .ok (.aload_n 0, 1) := by decide +kernel
theorem dL_writeVersion_3 : decode cL_writeVersion 3 = .ok (.iload_n 1, 1) := by decide +kernel
theorem dL_writeVersion_4 : decode cL_writeVersion 4 = .ok (.invokevirtual 115, 3) := by decide +kernel
theorem dL_writeVersion_7 : decode cL_writeVersion 7 = .ok (.i2l, 1) := by decide +kernel
theorem dL_writeVersion_8 : decode cL_writeVersion 8 = .ok (.lastore, 1) := by decide +kernel
theorem dL_writeVersion_9 : decode cL_writeVersion 9 = .ok (.goto 9, 3) := by decide +kernel
theorem dL_writeVersion_12 : decode cL_writeVersion 12 = .ok (.astore_n 3, 1) := by decide +kernel
theorem dL_writeVersion_13 : decode cL_writeVersion 13 = .ok (.iconst 1, 1) := by decide +kernel
theorem dL_writeVersion_14 : decode cL_writeVersion 14 = .ok (.ireturn, 1) := by decide +kernel
theorem dL_writeVersion_15 : decode cL_writeVersion 15 = .ok (.astore_n 3, 1) := by decide +kernel
theorem dL_writeVersion_16 : decode cL_writeVersion 16 = .ok (.iconst 2, 1) := by decide +kernel
theorem dL_writeVersion_17 : decode cL_writeVersion 17 = .ok (.ireturn, 1) := by decide +kernel
theorem dL_writeVersion_18 : decode cL_writeVersion 18 = .ok (.iconst 0, 1) := by decide +kernel
theorem dL_writeVersion_19 : decode cL_writeVersion 19 = .ok (.ireturn, 1) := by decide +kernel
theorem dL_restoreState_0 : decode cL_restoreState 0 = .ok (.aload_n 1, 1) := by decide +kernel
theorem dL_restoreState_1 : decode cL_restoreState 1 = .ok (.iconst 0, 1) := by decide +kernel
theorem dL_restoreState_2 : decode cL_restoreState 2 = .ok (.aload_n 0, 1) := by decide +kernel
theorem dL_restoreState_3 : decode cL_restoreState 3 = .ok (.invokevirtual 118, 3) := by decide +kernel
theorem dL_restoreState_6 : decode cL_restoreState 6 = .ok (.i2l, 1) := by decide +kernel
theorem dL_restoreState_7 : decode cL_restoreState 7 = .ok (.lastore, 1) := by decide +kernel
theorem dL_restoreState_8 : decode cL_restoreState 8 = .ok (.goto 6, 3) := by decide +kernel
theorem dL_restoreState_11 : decode cL_restoreState 11 = .ok (.astore_n 2, 1) := by decide +kernel
theorem dL_restoreState_12 : decode cL_restoreState 12 = .ok (.iconst 1, 1) := by decide +kernel
theorem dL_restoreState_13 : decode cL_restoreState 13 = .ok (.ireturn, 1) := by decide +kernel
theorem dL_restoreState_14 : decode cL_restoreState 14 = .ok (.iconst 0, 1) := by decide +kernel
theorem dL_restoreState_15 : decode cL_restoreState 15 = .ok (.ireturn, 1) := by decide +kernel
theorem dL_law_0 : decode cL_law 0 = .ok (.new 8, 3) := by decide +kernel
theorem dL_law_3 : decode cL_law 3 = .ok (.dup, 1) := by decide +kernel
theorem dL_law_4 : decode cL_law 4 = .ok (.invokespecial 121, 3) := by decide +kernel
theorem dL_law_7 : decode cL_law 7 = .ok (.astore_n 1, 1) := by decide +kernel
theorem dL_law_8 : decode cL_law 8 = .ok (.new 122, 3) := by decide +kernel
theorem dL_law_11 : decode cL_law 11 = .ok (.dup, 1) := by decide +kernel
theorem dL_law_12 : decode cL_law 12 = .ok (.invokespecial 124, 3) := by decide +kernel
theorem dL_law_15 : decode cL_law 15 = .ok (.astore_n 2, 1) := by decide +kernel
theorem dL_law_16 : decode cL_law 16 = .ok (.iconst 1, 1) := by decide +kernel
theorem dL_law_17 : decode cL_law 17 = .ok (.newarray .long, 2) := by decide +kernel
theorem dL_law_19 : decode cL_law 19 = .ok (.astore_n 3, 1) := by decide +kernel
theorem dL_law_20 : decode cL_law 20 = .ok (.iconst 0, 1) := by decide +kernel
theorem dL_law_21 : decode cL_law 21 = .ok (.istore 4, 2) := by decide +kernel
theorem dL_law_23 : decode cL_law 23 = .ok (.iload 4, 2) := by decide +kernel
theorem dL_law_25 : decode cL_law 25 = .ok (.aload_n 0, 1) := by decide +kernel
theorem dL_law_26 : decode cL_law 26 = .ok (.arraylength, 1) := by decide +kernel
theorem dL_law_27 : decode cL_law 27 = .ok (.bipush 6, 2) := by decide +kernel
theorem dL_law_29 : decode cL_law 29 = .ok (.isub, 1) := by decide +kernel
theorem dL_law_30 : decode cL_law 30 = .ok (.if_icmp .gt 2630, 3) := by decide +kernel
theorem dL_law_33 : decode cL_law 33 = .ok (.aload_n 0, 1) := by decide +kernel
theorem dL_law_34 : decode cL_law 34 = .ok (.iload 4, 2) := by decide +kernel
theorem dL_law_36 : decode cL_law 36 = .ok (.iaload, 1) := by decide +kernel
theorem dL_law_37 : decode cL_law 37 = .ok (.bipush 63, 2) := by decide +kernel
theorem dL_law_39 : decode cL_law 39 = .ok (.iand, 1) := by decide +kernel
theorem dL_law_40 : decode cL_law 40 = .ok (.tableswitch 2614 0 50 #[220, 293, 318, 331, 344, 357, 370, 383, 396, 459, 515, 571, 627, 695, 751, 807, 863, 931, 999, 1055, 1123, 1136, 1149, 1162, 1218, 1274, 1342, 1398, 1461, 1517, 1585, 1641, 1709, 1777, 1845, 1925, 1981, 2037, 2050, 2091, 2134, 2147, 2227, 2295, 2363, 2419, 2432, 2476, 2532, 2557, 2570], 220) := by decide +kernel
theorem dL_law_260 : decode cL_law 260 = .ok (.aload_n 1, 1) := by decide +kernel
theorem dL_law_261 : decode cL_law 261 = .ok (.aload_n 0, 1) := by decide +kernel
theorem dL_law_262 : decode cL_law 262 = .ok (.iload 4, 2) := by decide +kernel
theorem dL_law_264 : decode cL_law 264 = .ok (.iconst 1, 1) := by decide +kernel
theorem dL_law_265 : decode cL_law 265 = .ok (.iadd, 1) := by decide +kernel
theorem dL_law_266 : decode cL_law 266 = .ok (.iaload, 1) := by decide +kernel
theorem dL_law_267 : decode cL_law 267 = .ok (.aload_n 0, 1) := by decide +kernel
theorem dL_law_268 : decode cL_law 268 = .ok (.iload 4, 2) := by decide +kernel
theorem dL_law_270 : decode cL_law 270 = .ok (.iconst 2, 1) := by decide +kernel
theorem dL_law_271 : decode cL_law 271 = .ok (.iadd, 1) := by decide +kernel
theorem dL_law_272 : decode cL_law 272 = .ok (.iaload, 1) := by decide +kernel
theorem dL_law_273 : decode cL_law 273 = .ok (.aload_n 0, 1) := by decide +kernel
theorem dL_law_274 : decode cL_law 274 = .ok (.iload 4, 2) := by decide +kernel
theorem dL_law_276 : decode cL_law 276 = .ok (.iconst 3, 1) := by decide +kernel
theorem dL_law_277 : decode cL_law 277 = .ok (.iadd, 1) := by decide +kernel
theorem dL_law_278 : decode cL_law 278 = .ok (.iaload, 1) := by decide +kernel
theorem dL_law_279 : decode cL_law 279 = .ok (.aload_n 0, 1) := by decide +kernel
theorem dL_law_280 : decode cL_law 280 = .ok (.iload 4, 2) := by decide +kernel
theorem dL_law_282 : decode cL_law 282 = .ok (.iconst 4, 1) := by decide +kernel
theorem dL_law_283 : decode cL_law 283 = .ok (.iadd, 1) := by decide +kernel
theorem dL_law_284 : decode cL_law 284 = .ok (.iaload, 1) := by decide +kernel
theorem dL_law_285 : decode cL_law 285 = .ok (.aload_n 0, 1) := by decide +kernel
theorem dL_law_286 : decode cL_law 286 = .ok (.iload 4, 2) := by decide +kernel
theorem dL_law_288 : decode cL_law 288 = .ok (.iconst 5, 1) := by decide +kernel
theorem dL_law_289 : decode cL_law 289 = .ok (.iadd, 1) := by decide +kernel
theorem dL_law_290 : decode cL_law 290 = .ok (.iaload, 1) := by decide +kernel
theorem dL_law_291 : decode cL_law 291 = .ok (.invokevirtual 125, 3) := by decide +kernel
theorem dL_law_294 : decode cL_law 294 = .ok (.aload_n 2, 1) := by decide +kernel
theorem dL_law_295 : decode cL_law 295 = .ok (.aload_n 0, 1) := by decide +kernel
theorem dL_law_296 : decode cL_law 296 = .ok (.iload 4, 2) := by decide +kernel
theorem dL_law_298 : decode cL_law 298 = .ok (.iconst 1, 1) := by decide +kernel
theorem dL_law_299 : decode cL_law 299 = .ok (.iadd, 1) := by decide +kernel
theorem dL_law_300 : decode cL_law 300 = .ok (.iaload, 1) := by decide +kernel
theorem dL_law_301 : decode cL_law 301 = .ok (.aload_n 0, 1) := by decide +kernel
theorem dL_law_302 : decode cL_law 302 = .ok (.iload 4, 2) := by decide +kernel
theorem dL_law_304 : decode cL_law 304 = .ok (.iconst 2, 1) := by decide +kernel
theorem dL_law_305 : decode cL_law 305 = .ok (.iadd, 1) := by decide +kernel
theorem dL_law_306 : decode cL_law 306 = .ok (.iaload, 1) := by decide +kernel
theorem dL_law_307 : decode cL_law 307 = .ok (.aload_n 0, 1) := by decide +kernel
theorem dL_law_308 : decode cL_law 308 = .ok (.iload 4, 2) := by decide +kernel
theorem dL_law_310 : decode cL_law 310 = .ok (.iconst 3, 1) := by decide +kernel
theorem dL_law_311 : decode cL_law 311 = .ok (.iadd, 1) := by decide +kernel
theorem dL_law_312 : decode cL_law 312 = .ok (.iaload, 1) := by decide +kernel
theorem dL_law_313 : decode cL_law 313 = .ok (.aload_n 0, 1) := by decide +kernel
theorem dL_law_314 : decode cL_law 314 = .ok (.iload 4, 2) := by decide +kernel
theorem dL_law_316 : decode cL_law 316 = .ok (.iconst 4, 1) := by decide +kernel
theorem dL_law_317 : decode cL_law 317 = .ok (.iadd, 1) := by decide +kernel
theorem dL_law_318 : decode cL_law 318 = .ok (.iaload, 1) := by decide +kernel
theorem dL_law_319 : decode cL_law 319 = .ok (.aload_n 0, 1) := by decide +kernel
theorem dL_law_320 : decode cL_law 320 = .ok (.iload 4, 2) := by decide +kernel
theorem dL_law_322 : decode cL_law 322 = .ok (.iconst 5, 1) := by decide +kernel
theorem dL_law_323 : decode cL_law 323 = .ok (.iadd, 1) := by decide +kernel
theorem dL_law_324 : decode cL_law 324 = .ok (.iaload, 1) := by decide +kernel
theorem dL_law_325 : decode cL_law 325 = .ok (.invokevirtual 129, 3) := by decide +kernel
theorem dL_law_328 : decode cL_law 328 = .ok (.if_icmp .eq 2326, 3) := by decide +kernel
theorem dL_law_331 : decode cL_law 331 = .ok (.iconst 0, 1) := by decide +kernel
theorem dL_law_332 : decode cL_law 332 = .ok (.ireturn, 1) := by decide +kernel
theorem dL_law_333 : decode cL_law 333 = .ok (.aload_n 1, 1) := by decide +kernel
theorem dL_law_334 : decode cL_law 334 = .ok (.aload_n 0, 1) := by decide +kernel
theorem dL_law_335 : decode cL_law 335 = .ok (.iload 4, 2) := by decide +kernel
theorem dL_law_337 : decode cL_law 337 = .ok (.iconst 1, 1) := by decide +kernel
theorem dL_law_338 : decode cL_law 338 = .ok (.iadd, 1) := by decide +kernel
theorem dL_law_339 : decode cL_law 339 = .ok (.iaload, 1) := by decide +kernel
theorem dL_law_340 : decode cL_law 340 = .ok (.invokevirtual 130, 3) := by decide +kernel
theorem dL_law_343 : decode cL_law 343 = .ok (.aload_n 2, 1) := by decide +kernel
theorem dL_law_344 : decode cL_law 344 = .ok (.aload_n 0, 1) := by decide +kernel
theorem dL_law_345 : decode cL_law 345 = .ok (.iload 4, 2) := by decide +kernel
theorem dL_law_347 : decode cL_law 347 = .ok (.iconst 1, 1) := by decide +kernel
theorem dL_law_348 : decode cL_law 348 = .ok (.iadd, 1) := by decide +kernel
theorem dL_law_349 : decode cL_law 349 = .ok (.iaload, 1) := by decide +kernel
theorem dL_law_350 : decode cL_law 350 = .ok (.invokevirtual 133, 3) := by decide +kernel
theorem dL_law_353 : decode cL_law 353 = .ok (.if_icmp .eq 2301, 3) := by decide +kernel
theorem dL_law_356 : decode cL_law 356 = .ok (.iconst 0, 1) := by decide +kernel
theorem dL_law_357 : decode cL_law 357 = .ok (.ireturn, 1) := by decide +kernel
theorem dL_law_358 : decode cL_law 358 = .ok (.aload_n 1, 1) := by decide +kernel
theorem dL_law_359 : decode cL_law 359 = .ok (.invokevirtual 134, 3) := by decide +kernel
theorem dL_law_362 : decode cL_law 362 = .ok (.aload_n 2, 1) := by decide +kernel
theorem dL_law_363 : decode cL_law 363 = .ok (.invokevirtual 137, 3) := by decide +kernel
theorem dL_law_366 : decode cL_law 366 = .ok (.if_icmp .eq 2288, 3) := by decide +kernel
theorem dL_law_369 : decode cL_law 369 = .ok (.iconst 0, 1) := by decide +kernel
theorem dL_law_370 : decode cL_law 370 = .ok (.ireturn, 1) := by decide +kernel
theorem dL_law_371 : decode cL_law 371 = .ok (.aload_n 1, 1) := by decide +kernel
theorem dL_law_372 : decode cL_law 372 = .ok (.invokevirtual 138, 3) := by decide +kernel
theorem dL_law_375 : decode cL_law 375 = .ok (.aload_n 2, 1) := by decide +kernel
theorem dL_law_376 : decode cL_law 376 = .ok (.invokevirtual 141, 3) := by decide +kernel
theorem dL_law_379 : decode cL_law 379 = .ok (.if_icmp .eq 2275, 3) := by decide +kernel
theorem dL_law_382 : decode cL_law 382 = .ok (.iconst 0, 1) := by decide +kernel
theorem dL_law_383 : decode cL_law 383 = .ok (.ireturn, 1) := by decide +kernel
theorem dL_law_384 : decode cL_law 384 = .ok (.aload_n 1, 1) := by decide +kernel
theorem dL_law_385 : decode cL_law 385 = .ok (.invokevirtual 142, 3) := by decide +kernel
theorem dL_law_388 : decode cL_law 388 = .ok (.aload_n 2, 1) := by decide +kernel
theorem dL_law_389 : decode cL_law 389 = .ok (.invokevirtual 145, 3) := by decide +kernel
theorem dL_law_392 : decode cL_law 392 = .ok (.if_icmp .eq 2262, 3) := by decide +kernel
theorem dL_law_395 : decode cL_law 395 = .ok (.iconst 0, 1) := by decide +kernel
theorem dL_law_396 : decode cL_law 396 = .ok (.ireturn, 1) := by decide +kernel
theorem dL_law_397 : decode cL_law 397 = .ok (.aload_n 1, 1) := by decide +kernel
theorem dL_law_398 : decode cL_law 398 = .ok (.invokevirtual 146, 3) := by decide +kernel
theorem dL_law_401 : decode cL_law 401 = .ok (.aload_n 2, 1) := by decide +kernel
theorem dL_law_402 : decode cL_law 402 = .ok (.invokevirtual 149, 3) := by decide +kernel
theorem dL_law_405 : decode cL_law 405 = .ok (.if_icmp .eq 2249, 3) := by decide +kernel
theorem dL_law_408 : decode cL_law 408 = .ok (.iconst 0, 1) := by decide +kernel
theorem dL_law_409 : decode cL_law 409 = .ok (.ireturn, 1) := by decide +kernel
theorem dL_law_410 : decode cL_law 410 = .ok (.aload_n 1, 1) := by decide +kernel
theorem dL_law_411 : decode cL_law 411 = .ok (.invokevirtual 150, 3) := by decide +kernel
theorem dL_law_414 : decode cL_law 414 = .ok (.aload_n 2, 1) := by decide +kernel
theorem dL_law_415 : decode cL_law 415 = .ok (.invokevirtual 153, 3) := by decide +kernel
theorem dL_law_418 : decode cL_law 418 = .ok (.if_icmp .eq 2236, 3) := by decide +kernel
theorem dL_law_421 : decode cL_law 421 = .ok (.iconst 0, 1) := by decide +kernel
theorem dL_law_422 : decode cL_law 422 = .ok (.ireturn, 1) := by decide +kernel
theorem dL_law_423 : decode cL_law 423 = .ok (.aload_n 1, 1) := by decide +kernel
theorem dL_law_424 : decode cL_law 424 = .ok (.invokevirtual 154, 3) := by decide +kernel
theorem dL_law_427 : decode cL_law 427 = .ok (.aload_n 2, 1) := by decide +kernel
theorem dL_law_428 : decode cL_law 428 = .ok (.invokevirtual 157, 3) := by decide +kernel
theorem dL_law_431 : decode cL_law 431 = .ok (.if_icmp .eq 2223, 3) := by decide +kernel
theorem dL_law_434 : decode cL_law 434 = .ok (.iconst 0, 1) := by decide +kernel
theorem dL_law_435 : decode cL_law 435 = .ok (.ireturn, 1) := by decide +kernel
theorem dL_law_436 : decode cL_law 436 = .ok (.aload_n 1, 1) := by decide +kernel
theorem dL_law_437 : decode cL_law 437 = .ok (.aload_n 0, 1) := by decide +kernel
theorem dL_law_438 : decode cL_law 438 = .ok (.iload 4, 2) := by decide +kernel
theorem dL_law_440 : decode cL_law 440 = .ok (.iconst 1, 1) := by decide +kernel
theorem dL_law_441 : decode cL_law 441 = .ok (.iadd, 1) := by decide +kernel
theorem dL_law_442 : decode cL_law 442 = .ok (.iaload, 1) := by decide +kernel
theorem dL_law_443 : decode cL_law 443 = .ok (.aload_n 3, 1) := by decide +kernel
theorem dL_law_444 : decode cL_law 444 = .ok (.invokestatic 158, 3) := by decide +kernel
theorem dL_law_447 : decode cL_law 447 = .ok (.istore 5, 2) := by decide +kernel
theorem dL_law_449 : decode cL_law 449 = .ok (.aload_n 2, 1) := by decide +kernel
theorem dL_law_450 : decode cL_law 450 = .ok (.aload_n 0, 1) := by decide +kernel
theorem dL_law_451 : decode cL_law 451 = .ok (.iload 4, 2) := by decide +kernel
theorem dL_law_453 : decode cL_law 453 = .ok (.iconst 1, 1) := by decide +kernel
theorem dL_law_454 : decode cL_law 454 = .ok (.iadd, 1) := by decide +kernel
theorem dL_law_455 : decode cL_law 455 = .ok (.iaload, 1) := by decide +kernel
theorem dL_law_456 : decode cL_law 456 = .ok (.invokevirtual 163, 3) := by decide +kernel
theorem dL_law_459 : decode cL_law 459 = .ok (.istore 6, 2) := by decide +kernel
theorem dL_law_461 : decode cL_law 461 = .ok (.aload_n 2, 1) := by decide +kernel
theorem dL_law_462 : decode cL_law 462 = .ok (.invokevirtual 164, 3) := by decide +kernel
theorem dL_law_465 : decode cL_law 465 = .ok (.iload 5, 2) := by decide +kernel
theorem dL_law_467 : decode cL_law 467 = .ok (.if_icmp .eq 5, 3) := by decide +kernel
theorem dL_law_470 : decode cL_law 470 = .ok (.iconst 0, 1) := by decide +kernel
theorem dL_law_471 : decode cL_law 471 = .ok (.ireturn, 1) := by decide +kernel
theorem dL_law_472 : decode cL_law 472 = .ok (.iload 5, 2) := by decide +kernel
theorem dL_law_474 : decode cL_law 474 = .ok (.ifCond .ne 22, 3) := by decide +kernel
theorem dL_law_477 : decode cL_law 477 = .ok (.aload_n 3, 1) := by decide +kernel
theorem dL_law_478 : decode cL_law 478 = .ok (.iconst 0, 1) := by decide +kernel
theorem dL_law_479 : decode cL_law 479 = .ok (.laload, 1) := by decide +kernel
theorem dL_law_480 : decode cL_law 480 = .ok (.iload 6, 2) := by decide +kernel
theorem dL_law_482 : decode cL_law 482 = .ok (.ifCond .eq 7, 3) := by decide +kernel
theorem dL_law_485 : decode cL_law 485 = .ok (.lconst 1, 1) := by decide +kernel
theorem dL_law_486 : decode cL_law 486 = .ok (.goto 4, 3) := by decide +kernel
theorem dL_law_489 : decode cL_law 489 = .ok (.lconst 0, 1) := by decide +kernel
theorem dL_law_490 : decode cL_law 490 = .ok (.lcmp, 1) := by decide +kernel
theorem dL_law_491 : decode cL_law 491 = .ok (.ifCond .eq 5, 3) := by decide +kernel
theorem dL_law_494 : decode cL_law 494 = .ok (.iconst 0, 1) := by decide +kernel
theorem dL_law_495 : decode cL_law 495 = .ok (.ireturn, 1) := by decide +kernel
theorem dL_law_496 : decode cL_law 496 = .ok (.goto 2158, 3) := by decide +kernel
theorem dL_law_499 : decode cL_law 499 = .ok (.aload_n 1, 1) := by decide +kernel
theorem dL_law_500 : decode cL_law 500 = .ok (.aload_n 0, 1) := by decide +kernel
theorem dL_law_501 : decode cL_law 501 = .ok (.iload 4, 2) := by decide +kernel
theorem dL_law_503 : decode cL_law 503 = .ok (.iconst 1, 1) := by decide +kernel
theorem dL_law_504 : decode cL_law 504 = .ok (.iadd, 1) := by decide +kernel
theorem dL_law_505 : decode cL_law 505 = .ok (.iaload, 1) := by decide +kernel
theorem dL_law_506 : decode cL_law 506 = .ok (.aload_n 3, 1) := by decide +kernel
theorem dL_law_507 : decode cL_law 507 = .ok (.invokestatic 167, 3) := by decide +kernel
theorem dL_law_510 : decode cL_law 510 = .ok (.istore 5, 2) := by decide +kernel
theorem dL_law_512 : decode cL_law 512 = .ok (.aload_n 2, 1) := by decide +kernel
theorem dL_law_513 : decode cL_law 513 = .ok (.aload_n 0, 1) := by decide +kernel
theorem dL_law_514 : decode cL_law 514 = .ok (.iload 4, 2) := by decide +kernel
theorem dL_law_516 : decode cL_law 516 = .ok (.iconst 1, 1) := by decide +kernel
theorem dL_law_517 : decode cL_law 517 = .ok (.iadd, 1) := by decide +kernel
theorem dL_law_518 : decode cL_law 518 = .ok (.iaload, 1) := by decide +kernel
theorem dL_law_519 : decode cL_law 519 = .ok (.invokevirtual 169, 3) := by decide +kernel
theorem dL_law_522 : decode cL_law 522 = .ok (.istore 6, 2) := by decide +kernel
theorem dL_law_524 : decode cL_law 524 = .ok (.aload_n 2, 1) := by decide +kernel
theorem dL_law_525 : decode cL_law 525 = .ok (.invokevirtual 164, 3) := by decide +kernel
theorem dL_law_528 : decode cL_law 528 = .ok (.iload 5, 2) := by decide +kernel
theorem dL_law_530 : decode cL_law 530 = .ok (.if_icmp .eq 5, 3) := by decide +kernel
theorem dL_law_533 : decode cL_law 533 = .ok (.iconst 0, 1) := by decide +kernel
theorem dL_law_534 : decode cL_law 534 = .ok (.ireturn, 1) := by decide +kernel
theorem dL_law_535 : decode cL_law 535 = .ok (.iload 5, 2) := by decide +kernel
theorem dL_law_537 : decode cL_law 537 = .ok (.ifCond .ne 15, 3) := by decide +kernel
theorem dL_law_540 : decode cL_law 540 = .ok (.aload_n 3, 1) := by decide +kernel
theorem dL_law_541 : decode cL_law 541 = .ok (.iconst 0, 1) := by decide +kernel
theorem dL_law_542 : decode cL_law 542 = .ok (.laload, 1) := by decide +kernel
theorem dL_law_543 : decode cL_law 543 = .ok (.iload 6, 2) := by decide +kernel
theorem dL_law_545 : decode cL_law 545 = .ok (.i2l, 1) := by decide +kernel
theorem dL_law_546 : decode cL_law 546 = .ok (.lcmp, 1) := by decide +kernel
theorem dL_law_547 : decode cL_law 547 = .ok (.ifCond .eq 5, 3) := by decide +kernel
theorem dL_law_550 : decode cL_law 550 = .ok (.iconst 0, 1) := by decide +kernel
theorem dL_law_551 : decode cL_law 551 = .ok (.ireturn, 1) := by decide +kernel
theorem dL_law_552 : decode cL_law 552 = .ok (.goto 2102, 3) := by decide +kernel
theorem dL_law_555 : decode cL_law 555 = .ok (.aload_n 1, 1) := by decide +kernel
theorem dL_law_556 : decode cL_law 556 = .ok (.aload_n 0, 1) := by decide +kernel
theorem dL_law_557 : decode cL_law 557 = .ok (.iload 4, 2) := by decide +kernel
theorem dL_law_559 : decode cL_law 559 = .ok (.iconst 1, 1) := by decide +kernel
theorem dL_law_560 : decode cL_law 560 = .ok (.iadd, 1) := by decide +kernel
theorem dL_law_561 : decode cL_law 561 = .ok (.iaload, 1) := by decide +kernel
theorem dL_law_562 : decode cL_law 562 = .ok (.aload_n 3, 1) := by decide +kernel
theorem dL_law_563 : decode cL_law 563 = .ok (.invokestatic 170, 3) := by decide +kernel
theorem dL_law_566 : decode cL_law 566 = .ok (.istore 5, 2) := by decide +kernel
theorem dL_law_568 : decode cL_law 568 = .ok (.aload_n 2, 1) := by decide +kernel
theorem dL_law_569 : decode cL_law 569 = .ok (.aload_n 0, 1) := by decide +kernel
theorem dL_law_570 : decode cL_law 570 = .ok (.iload 4, 2) := by decide +kernel
theorem dL_law_572 : decode cL_law 572 = .ok (.iconst 1, 1) := by decide +kernel
theorem dL_law_573 : decode cL_law 573 = .ok (.iadd, 1) := by decide +kernel
theorem dL_law_574 : decode cL_law 574 = .ok (.iaload, 1) := by decide +kernel
theorem dL_law_575 : decode cL_law 575 = .ok (.invokevirtual 172, 3) := by decide +kernel
theorem dL_law_578 : decode cL_law 578 = .ok (.istore 6, 2) := by decide +kernel
theorem dL_law_580 : decode cL_law 580 = .ok (.aload_n 2, 1) := by decide +kernel
theorem dL_law_581 : decode cL_law 581 = .ok (.invokevirtual 164, 3) := by decide +kernel
theorem dL_law_584 : decode cL_law 584 = .ok (.iload 5, 2) := by decide +kernel
theorem dL_law_586 : decode cL_law 586 = .ok (.if_icmp .eq 5, 3) := by decide +kernel
theorem dL_law_589 : decode cL_law 589 = .ok (.iconst 0, 1) := by decide +kernel
theorem dL_law_590 : decode cL_law 590 = .ok (.ireturn, 1) := by decide +kernel
theorem dL_law_591 : decode cL_law 591 = .ok (.iload 5, 2) := by decide +kernel
theorem dL_law_593 : decode cL_law 593 = .ok (.ifCond .ne 15, 3) := by decide +kernel
theorem dL_law_596 : decode cL_law 596 = .ok (.aload_n 3, 1) := by decide +kernel
theorem dL_law_597 : decode cL_law 597 = .ok (.iconst 0, 1) := by decide +kernel
theorem dL_law_598 : decode cL_law 598 = .ok (.laload, 1) := by decide +kernel
theorem dL_law_599 : decode cL_law 599 = .ok (.iload 6, 2) := by decide +kernel
theorem dL_law_601 : decode cL_law 601 = .ok (.i2l, 1) := by decide +kernel
theorem dL_law_602 : decode cL_law 602 = .ok (.lcmp, 1) := by decide +kernel
theorem dL_law_603 : decode cL_law 603 = .ok (.ifCond .eq 5, 3) := by decide +kernel
theorem dL_law_606 : decode cL_law 606 = .ok (.iconst 0, 1) := by decide +kernel
theorem dL_law_607 : decode cL_law 607 = .ok (.ireturn, 1) := by decide +kernel
theorem dL_law_608 : decode cL_law 608 = .ok (.goto 2046, 3) := by decide +kernel
theorem dL_law_611 : decode cL_law 611 = .ok (.aload_n 1, 1) := by decide +kernel
theorem dL_law_612 : decode cL_law 612 = .ok (.aload_n 0, 1) := by decide +kernel
theorem dL_law_613 : decode cL_law 613 = .ok (.iload 4, 2) := by decide +kernel
theorem dL_law_615 : decode cL_law 615 = .ok (.iconst 1, 1) := by decide +kernel
theorem dL_law_616 : decode cL_law 616 = .ok (.iadd, 1) := by decide +kernel
theorem dL_law_617 : decode cL_law 617 = .ok (.iaload, 1) := by decide +kernel
theorem dL_law_618 : decode cL_law 618 = .ok (.aload_n 3, 1) := by decide +kernel
theorem dL_law_619 : decode cL_law 619 = .ok (.invokestatic 173, 3) := by decide +kernel
theorem dL_law_622 : decode cL_law 622 = .ok (.istore 5, 2) := by decide +kernel
theorem dL_law_624 : decode cL_law 624 = .ok (.aload_n 2, 1) := by decide +kernel
theorem dL_law_625 : decode cL_law 625 = .ok (.aload_n 0, 1) := by decide +kernel
theorem dL_law_626 : decode cL_law 626 = .ok (.iload 4, 2) := by decide +kernel
theorem dL_law_628 : decode cL_law 628 = .ok (.iconst 1, 1) := by decide +kernel
theorem dL_law_629 : decode cL_law 629 = .ok (.iadd, 1) := by decide +kernel
theorem dL_law_630 : decode cL_law 630 = .ok (.iaload, 1) := by decide +kernel
theorem dL_law_631 : decode cL_law 631 = .ok (.invokevirtual 175, 3) := by decide +kernel
theorem dL_law_634 : decode cL_law 634 = .ok (.istore 6, 2) := by decide +kernel
theorem dL_law_636 : decode cL_law 636 = .ok (.aload_n 2, 1) := by decide +kernel
theorem dL_law_637 : decode cL_law 637 = .ok (.invokevirtual 164, 3) := by decide +kernel
theorem dL_law_640 : decode cL_law 640 = .ok (.iload 5, 2) := by decide +kernel
theorem dL_law_642 : decode cL_law 642 = .ok (.if_icmp .eq 5, 3) := by decide +kernel
theorem dL_law_645 : decode cL_law 645 = .ok (.iconst 0, 1) := by decide +kernel
theorem dL_law_646 : decode cL_law 646 = .ok (.ireturn, 1) := by decide +kernel
theorem dL_law_647 : decode cL_law 647 = .ok (.iload 5, 2) := by decide +kernel
theorem dL_law_649 : decode cL_law 649 = .ok (.ifCond .ne 15, 3) := by decide +kernel
theorem dL_law_652 : decode cL_law 652 = .ok (.aload_n 3, 1) := by decide +kernel
theorem dL_law_653 : decode cL_law 653 = .ok (.iconst 0, 1) := by decide +kernel
theorem dL_law_654 : decode cL_law 654 = .ok (.laload, 1) := by decide +kernel
theorem dL_law_655 : decode cL_law 655 = .ok (.iload 6, 2) := by decide +kernel
theorem dL_law_657 : decode cL_law 657 = .ok (.i2l, 1) := by decide +kernel
theorem dL_law_658 : decode cL_law 658 = .ok (.lcmp, 1) := by decide +kernel
theorem dL_law_659 : decode cL_law 659 = .ok (.ifCond .eq 5, 3) := by decide +kernel
theorem dL_law_662 : decode cL_law 662 = .ok (.iconst 0, 1) := by decide +kernel
theorem dL_law_663 : decode cL_law 663 = .ok (.ireturn, 1) := by decide +kernel
theorem dL_law_664 : decode cL_law 664 = .ok (.goto 1990, 3) := by decide +kernel
theorem dL_law_667 : decode cL_law 667 = .ok (.aload_n 1, 1) := by decide +kernel
theorem dL_law_668 : decode cL_law 668 = .ok (.aload_n 0, 1) := by decide +kernel
theorem dL_law_669 : decode cL_law 669 = .ok (.iload 4, 2) := by decide +kernel
theorem dL_law_671 : decode cL_law 671 = .ok (.iconst 1, 1) := by decide +kernel
theorem dL_law_672 : decode cL_law 672 = .ok (.iadd, 1) := by decide +kernel
theorem dL_law_673 : decode cL_law 673 = .ok (.iaload, 1) := by decide +kernel
theorem dL_law_674 : decode cL_law 674 = .ok (.aload_n 0, 1) := by decide +kernel
theorem dL_law_675 : decode cL_law 675 = .ok (.iload 4, 2) := by decide +kernel
theorem dL_law_677 : decode cL_law 677 = .ok (.iconst 2, 1) := by decide +kernel
theorem dL_law_678 : decode cL_law 678 = .ok (.iadd, 1) := by decide +kernel
theorem dL_law_679 : decode cL_law 679 = .ok (.iaload, 1) := by decide +kernel
theorem dL_law_680 : decode cL_law 680 = .ok (.aload_n 3, 1) := by decide +kernel
theorem dL_law_681 : decode cL_law 681 = .ok (.invokestatic 176, 3) := by decide +kernel
theorem dL_law_684 : decode cL_law 684 = .ok (.istore 5, 2) := by decide +kernel
theorem dL_law_686 : decode cL_law 686 = .ok (.aload_n 2, 1) := by decide +kernel
theorem dL_law_687 : decode cL_law 687 = .ok (.aload_n 0, 1) := by decide +kernel
theorem dL_law_688 : decode cL_law 688 = .ok (.iload 4, 2) := by decide +kernel
theorem dL_law_690 : decode cL_law 690 = .ok (.iconst 1, 1) := by decide +kernel
theorem dL_law_691 : decode cL_law 691 = .ok (.iadd, 1) := by decide +kernel
theorem dL_law_692 : decode cL_law 692 = .ok (.iaload, 1) := by decide +kernel
theorem dL_law_693 : decode cL_law 693 = .ok (.aload_n 0, 1) := by decide +kernel
theorem dL_law_694 : decode cL_law 694 = .ok (.iload 4, 2) := by decide +kernel
theorem dL_law_696 : decode cL_law 696 = .ok (.iconst 2, 1) := by decide +kernel
theorem dL_law_697 : decode cL_law 697 = .ok (.iadd, 1) := by decide +kernel
theorem dL_law_698 : decode cL_law 698 = .ok (.iaload, 1) := by decide +kernel
theorem dL_law_699 : decode cL_law 699 = .ok (.invokevirtual 179, 3) := by decide +kernel
theorem dL_law_702 : decode cL_law 702 = .ok (.istore 6, 2) := by decide +kernel
theorem dL_law_704 : decode cL_law 704 = .ok (.aload_n 2, 1) := by decide +kernel
theorem dL_law_705 : decode cL_law 705 = .ok (.invokevirtual 164, 3) := by decide +kernel
theorem dL_law_708 : decode cL_law 708 = .ok (.iload 5, 2) := by decide +kernel
theorem dL_law_710 : decode cL_law 710 = .ok (.if_icmp .eq 5, 3) := by decide +kernel
theorem dL_law_713 : decode cL_law 713 = .ok (.iconst 0, 1) := by decide +kernel
theorem dL_law_714 : decode cL_law 714 = .ok (.ireturn, 1) := by decide +kernel
theorem dL_law_715 : decode cL_law 715 = .ok (.iload 5, 2) := by decide +kernel
theorem dL_law_717 : decode cL_law 717 = .ok (.ifCond .ne 15, 3) := by decide +kernel
theorem dL_law_720 : decode cL_law 720 = .ok (.aload_n 3, 1) := by decide +kernel
theorem dL_law_721 : decode cL_law 721 = .ok (.iconst 0, 1) := by decide +kernel
theorem dL_law_722 : decode cL_law 722 = .ok (.laload, 1) := by decide +kernel
theorem dL_law_723 : decode cL_law 723 = .ok (.iload 6, 2) := by decide +kernel
theorem dL_law_725 : decode cL_law 725 = .ok (.i2l, 1) := by decide +kernel
theorem dL_law_726 : decode cL_law 726 = .ok (.lcmp, 1) := by decide +kernel
theorem dL_law_727 : decode cL_law 727 = .ok (.ifCond .eq 5, 3) := by decide +kernel
theorem dL_law_730 : decode cL_law 730 = .ok (.iconst 0, 1) := by decide +kernel
theorem dL_law_731 : decode cL_law 731 = .ok (.ireturn, 1) := by decide +kernel
theorem dL_law_732 : decode cL_law 732 = .ok (.goto 1922, 3) := by decide +kernel
theorem dL_law_735 : decode cL_law 735 = .ok (.aload_n 1, 1) := by decide +kernel
theorem dL_law_736 : decode cL_law 736 = .ok (.aload_n 0, 1) := by decide +kernel
theorem dL_law_737 : decode cL_law 737 = .ok (.iload 4, 2) := by decide +kernel
theorem dL_law_739 : decode cL_law 739 = .ok (.iconst 1, 1) := by decide +kernel
theorem dL_law_740 : decode cL_law 740 = .ok (.iadd, 1) := by decide +kernel
theorem dL_law_741 : decode cL_law 741 = .ok (.iaload, 1) := by decide +kernel
theorem dL_law_742 : decode cL_law 742 = .ok (.aload_n 3, 1) := by decide +kernel
theorem dL_law_743 : decode cL_law 743 = .ok (.invokestatic 180, 3) := by decide +kernel
theorem dL_law_746 : decode cL_law 746 = .ok (.istore 5, 2) := by decide +kernel
theorem dL_law_748 : decode cL_law 748 = .ok (.aload_n 2, 1) := by decide +kernel
theorem dL_law_749 : decode cL_law 749 = .ok (.aload_n 0, 1) := by decide +kernel
theorem dL_law_750 : decode cL_law 750 = .ok (.iload 4, 2) := by decide +kernel
theorem dL_law_752 : decode cL_law 752 = .ok (.iconst 1, 1) := by decide +kernel
theorem dL_law_753 : decode cL_law 753 = .ok (.iadd, 1) := by decide +kernel
theorem dL_law_754 : decode cL_law 754 = .ok (.iaload, 1) := by decide +kernel
theorem dL_law_755 : decode cL_law 755 = .ok (.invokevirtual 182, 3) := by decide +kernel
theorem dL_law_758 : decode cL_law 758 = .ok (.istore 6, 2) := by decide +kernel
theorem dL_law_760 : decode cL_law 760 = .ok (.aload_n 2, 1) := by decide +kernel
theorem dL_law_761 : decode cL_law 761 = .ok (.invokevirtual 164, 3) := by decide +kernel
theorem dL_law_764 : decode cL_law 764 = .ok (.iload 5, 2) := by decide +kernel
theorem dL_law_766 : decode cL_law 766 = .ok (.if_icmp .eq 5, 3) := by decide +kernel
theorem dL_law_769 : decode cL_law 769 = .ok (.iconst 0, 1) := by decide +kernel
theorem dL_law_770 : decode cL_law 770 = .ok (.ireturn, 1) := by decide +kernel
theorem dL_law_771 : decode cL_law 771 = .ok (.iload 5, 2) := by decide +kernel
theorem dL_law_773 : decode cL_law 773 = .ok (.ifCond .ne 15, 3) := by decide +kernel
theorem dL_law_776 : decode cL_law 776 = .ok (.aload_n 3, 1) := by decide +kernel
theorem dL_law_777 : decode cL_law 777 = .ok (.iconst 0, 1) := by decide +kernel
theorem dL_law_778 : decode cL_law 778 = .ok (.laload, 1) := by decide +kernel
theorem dL_law_779 : decode cL_law 779 = .ok (.iload 6, 2) := by decide +kernel
theorem dL_law_781 : decode cL_law 781 = .ok (.i2l, 1) := by decide +kernel
theorem dL_law_782 : decode cL_law 782 = .ok (.lcmp, 1) := by decide +kernel
theorem dL_law_783 : decode cL_law 783 = .ok (.ifCond .eq 5, 3) := by decide +kernel
theorem dL_law_786 : decode cL_law 786 = .ok (.iconst 0, 1) := by decide +kernel
theorem dL_law_787 : decode cL_law 787 = .ok (.ireturn, 1) := by decide +kernel
theorem dL_law_788 : decode cL_law 788 = .ok (.goto 1866, 3) := by decide +kernel
theorem dL_law_791 : decode cL_law 791 = .ok (.aload_n 1, 1) := by decide +kernel
theorem dL_law_792 : decode cL_law 792 = .ok (.aload_n 0, 1) := by decide +kernel
theorem dL_law_793 : decode cL_law 793 = .ok (.iload 4, 2) := by decide +kernel
theorem dL_law_795 : decode cL_law 795 = .ok (.iconst 1, 1) := by decide +kernel
theorem dL_law_796 : decode cL_law 796 = .ok (.iadd, 1) := by decide +kernel
theorem dL_law_797 : decode cL_law 797 = .ok (.iaload, 1) := by decide +kernel
theorem dL_law_798 : decode cL_law 798 = .ok (.aload_n 3, 1) := by decide +kernel
theorem dL_law_799 : decode cL_law 799 = .ok (.invokestatic 183, 3) := by decide +kernel
theorem dL_law_802 : decode cL_law 802 = .ok (.istore 5, 2) := by decide +kernel
theorem dL_law_804 : decode cL_law 804 = .ok (.aload_n 2, 1) := by decide +kernel
theorem dL_law_805 : decode cL_law 805 = .ok (.aload_n 0, 1) := by decide +kernel
theorem dL_law_806 : decode cL_law 806 = .ok (.iload 4, 2) := by decide +kernel
theorem dL_law_808 : decode cL_law 808 = .ok (.iconst 1, 1) := by decide +kernel
theorem dL_law_809 : decode cL_law 809 = .ok (.iadd, 1) := by decide +kernel
theorem dL_law_810 : decode cL_law 810 = .ok (.iaload, 1) := by decide +kernel
theorem dL_law_811 : decode cL_law 811 = .ok (.invokevirtual 185, 3) := by decide +kernel
theorem dL_law_814 : decode cL_law 814 = .ok (.istore 6, 2) := by decide +kernel
theorem dL_law_816 : decode cL_law 816 = .ok (.aload_n 2, 1) := by decide +kernel
theorem dL_law_817 : decode cL_law 817 = .ok (.invokevirtual 164, 3) := by decide +kernel
theorem dL_law_820 : decode cL_law 820 = .ok (.iload 5, 2) := by decide +kernel
theorem dL_law_822 : decode cL_law 822 = .ok (.if_icmp .eq 5, 3) := by decide +kernel
theorem dL_law_825 : decode cL_law 825 = .ok (.iconst 0, 1) := by decide +kernel
theorem dL_law_826 : decode cL_law 826 = .ok (.ireturn, 1) := by decide +kernel
theorem dL_law_827 : decode cL_law 827 = .ok (.iload 5, 2) := by decide +kernel
theorem dL_law_829 : decode cL_law 829 = .ok (.ifCond .ne 15, 3) := by decide +kernel
theorem dL_law_832 : decode cL_law 832 = .ok (.aload_n 3, 1) := by decide +kernel
theorem dL_law_833 : decode cL_law 833 = .ok (.iconst 0, 1) := by decide +kernel
theorem dL_law_834 : decode cL_law 834 = .ok (.laload, 1) := by decide +kernel
theorem dL_law_835 : decode cL_law 835 = .ok (.iload 6, 2) := by decide +kernel
theorem dL_law_837 : decode cL_law 837 = .ok (.i2l, 1) := by decide +kernel
theorem dL_law_838 : decode cL_law 838 = .ok (.lcmp, 1) := by decide +kernel
theorem dL_law_839 : decode cL_law 839 = .ok (.ifCond .eq 5, 3) := by decide +kernel
theorem dL_law_842 : decode cL_law 842 = .ok (.iconst 0, 1) := by decide +kernel
theorem dL_law_843 : decode cL_law 843 = .ok (.ireturn, 1) := by decide +kernel
theorem dL_law_844 : decode cL_law 844 = .ok (.goto 1810, 3) := by decide +kernel
theorem dL_law_847 : decode cL_law 847 = .ok (.aload_n 1, 1) := by decide +kernel
theorem dL_law_848 : decode cL_law 848 = .ok (.aload_n 0, 1) := by decide +kernel
theorem dL_law_849 : decode cL_law 849 = .ok (.iload 4, 2) := by decide +kernel
theorem dL_law_851 : decode cL_law 851 = .ok (.iconst 1, 1) := by decide +kernel
theorem dL_law_852 : decode cL_law 852 = .ok (.iadd, 1) := by decide +kernel
theorem dL_law_853 : decode cL_law 853 = .ok (.iaload, 1) := by decide +kernel
theorem dL_law_854 : decode cL_law 854 = .ok (.aload_n 3, 1) := by decide +kernel
theorem dL_law_855 : decode cL_law 855 = .ok (.invokestatic 186, 3) := by decide +kernel
theorem dL_law_858 : decode cL_law 858 = .ok (.istore 5, 2) := by decide +kernel
theorem dL_law_860 : decode cL_law 860 = .ok (.aload_n 2, 1) := by decide +kernel
theorem dL_law_861 : decode cL_law 861 = .ok (.aload_n 0, 1) := by decide +kernel
theorem dL_law_862 : decode cL_law 862 = .ok (.iload 4, 2) := by decide +kernel
theorem dL_law_864 : decode cL_law 864 = .ok (.iconst 1, 1) := by decide +kernel
theorem dL_law_865 : decode cL_law 865 = .ok (.iadd, 1) := by decide +kernel
theorem dL_law_866 : decode cL_law 866 = .ok (.iaload, 1) := by decide +kernel
theorem dL_law_867 : decode cL_law 867 = .ok (.invokevirtual 188, 3) := by decide +kernel
theorem dL_law_870 : decode cL_law 870 = .ok (.istore 6, 2) := by decide +kernel
theorem dL_law_872 : decode cL_law 872 = .ok (.aload_n 2, 1) := by decide +kernel
theorem dL_law_873 : decode cL_law 873 = .ok (.invokevirtual 164, 3) := by decide +kernel
theorem dL_law_876 : decode cL_law 876 = .ok (.iload 5, 2) := by decide +kernel
theorem dL_law_878 : decode cL_law 878 = .ok (.if_icmp .eq 5, 3) := by decide +kernel
theorem dL_law_881 : decode cL_law 881 = .ok (.iconst 0, 1) := by decide +kernel
theorem dL_law_882 : decode cL_law 882 = .ok (.ireturn, 1) := by decide +kernel
theorem dL_law_883 : decode cL_law 883 = .ok (.iload 5, 2) := by decide +kernel
theorem dL_law_885 : decode cL_law 885 = .ok (.ifCond .ne 15, 3) := by decide +kernel
theorem dL_law_888 : decode cL_law 888 = .ok (.aload_n 3, 1) := by decide +kernel
theorem dL_law_889 : decode cL_law 889 = .ok (.iconst 0, 1) := by decide +kernel
theorem dL_law_890 : decode cL_law 890 = .ok (.laload, 1) := by decide +kernel
theorem dL_law_891 : decode cL_law 891 = .ok (.iload 6, 2) := by decide +kernel
theorem dL_law_893 : decode cL_law 893 = .ok (.i2l, 1) := by decide +kernel
theorem dL_law_894 : decode cL_law 894 = .ok (.lcmp, 1) := by decide +kernel
theorem dL_law_895 : decode cL_law 895 = .ok (.ifCond .eq 5, 3) := by decide +kernel
theorem dL_law_898 : decode cL_law 898 = .ok (.iconst 0, 1) := by decide +kernel
theorem dL_law_899 : decode cL_law 899 = .ok (.ireturn, 1) := by decide +kernel
theorem dL_law_900 : decode cL_law 900 = .ok (.goto 1754, 3) := by decide +kernel
theorem dL_law_903 : decode cL_law 903 = .ok (.aload_n 1, 1) := by decide +kernel
theorem dL_law_904 : decode cL_law 904 = .ok (.aload_n 0, 1) := by decide +kernel
theorem dL_law_905 : decode cL_law 905 = .ok (.iload 4, 2) := by decide +kernel
theorem dL_law_907 : decode cL_law 907 = .ok (.iconst 1, 1) := by decide +kernel
theorem dL_law_908 : decode cL_law 908 = .ok (.iadd, 1) := by decide +kernel
theorem dL_law_909 : decode cL_law 909 = .ok (.iaload, 1) := by decide +kernel
theorem dL_law_910 : decode cL_law 910 = .ok (.aload_n 0, 1) := by decide +kernel
theorem dL_law_911 : decode cL_law 911 = .ok (.iload 4, 2) := by decide +kernel
theorem dL_law_913 : decode cL_law 913 = .ok (.iconst 2, 1) := by decide +kernel
theorem dL_law_914 : decode cL_law 914 = .ok (.iadd, 1) := by decide +kernel
theorem dL_law_915 : decode cL_law 915 = .ok (.iaload, 1) := by decide +kernel
theorem dL_law_916 : decode cL_law 916 = .ok (.aload_n 3, 1) := by decide +kernel
theorem dL_law_917 : decode cL_law 917 = .ok (.invokestatic 189, 3) := by decide +kernel
theorem dL_law_920 : decode cL_law 920 = .ok (.istore 5, 2) := by decide +kernel
theorem dL_law_922 : decode cL_law 922 = .ok (.aload_n 2, 1) := by decide +kernel
theorem dL_law_923 : decode cL_law 923 = .ok (.aload_n 0, 1) := by decide +kernel
theorem dL_law_924 : decode cL_law 924 = .ok (.iload 4, 2) := by decide +kernel
theorem dL_law_926 : decode cL_law 926 = .ok (.iconst 1, 1) := by decide +kernel
theorem dL_law_927 : decode cL_law 927 = .ok (.iadd, 1) := by decide +kernel
theorem dL_law_928 : decode cL_law 928 = .ok (.iaload, 1) := by decide +kernel
theorem dL_law_929 : decode cL_law 929 = .ok (.aload_n 0, 1) := by decide +kernel
theorem dL_law_930 : decode cL_law 930 = .ok (.iload 4, 2) := by decide +kernel
theorem dL_law_932 : decode cL_law 932 = .ok (.iconst 2, 1) := by decide +kernel
theorem dL_law_933 : decode cL_law 933 = .ok (.iadd, 1) := by decide +kernel
theorem dL_law_934 : decode cL_law 934 = .ok (.iaload, 1) := by decide +kernel
theorem dL_law_935 : decode cL_law 935 = .ok (.invokevirtual 191, 3) := by decide +kernel
theorem dL_law_938 : decode cL_law 938 = .ok (.istore 6, 2) := by decide +kernel
theorem dL_law_940 : decode cL_law 940 = .ok (.aload_n 2, 1) := by decide +kernel
theorem dL_law_941 : decode cL_law 941 = .ok (.invokevirtual 164, 3) := by decide +kernel
theorem dL_law_944 : decode cL_law 944 = .ok (.iload 5, 2) := by decide +kernel
theorem dL_law_946 : decode cL_law 946 = .ok (.if_icmp .eq 5, 3) := by decide +kernel
theorem dL_law_949 : decode cL_law 949 = .ok (.iconst 0, 1) := by decide +kernel
theorem dL_law_950 : decode cL_law 950 = .ok (.ireturn, 1) := by decide +kernel
theorem dL_law_951 : decode cL_law 951 = .ok (.iload 5, 2) := by decide +kernel
theorem dL_law_953 : decode cL_law 953 = .ok (.ifCond .ne 15, 3) := by decide +kernel
theorem dL_law_956 : decode cL_law 956 = .ok (.aload_n 3, 1) := by decide +kernel
theorem dL_law_957 : decode cL_law 957 = .ok (.iconst 0, 1) := by decide +kernel
theorem dL_law_958 : decode cL_law 958 = .ok (.laload, 1) := by decide +kernel
theorem dL_law_959 : decode cL_law 959 = .ok (.iload 6, 2) := by decide +kernel
theorem dL_law_961 : decode cL_law 961 = .ok (.i2l, 1) := by decide +kernel
theorem dL_law_962 : decode cL_law 962 = .ok (.lcmp, 1) := by decide +kernel
theorem dL_law_963 : decode cL_law 963 = .ok (.ifCond .eq 5, 3) := by decide +kernel
theorem dL_law_966 : decode cL_law 966 = .ok (.iconst 0, 1) := by decide +kernel
theorem dL_law_967 : decode cL_law 967 = .ok (.ireturn, 1) := by decide +kernel
theorem dL_law_968 : decode cL_law 968 = .ok (.goto 1686, 3) := by decide +kernel
theorem dL_law_971 : decode cL_law 971 = .ok (.aload_n 1, 1) := by decide +kernel
theorem dL_law_972 : decode cL_law 972 = .ok (.aload_n 0, 1) := by decide +kernel
theorem dL_law_973 : decode cL_law 973 = .ok (.iload 4, 2) := by decide +kernel
theorem dL_law_975 : decode cL_law 975 = .ok (.iconst 1, 1) := by decide +kernel
theorem dL_law_976 : decode cL_law 976 = .ok (.iadd, 1) := by decide +kernel
theorem dL_law_977 : decode cL_law 977 = .ok (.iaload, 1) := by decide +kernel
theorem dL_law_978 : decode cL_law 978 = .ok (.aload_n 0, 1) := by decide +kernel
theorem dL_law_979 : decode cL_law 979 = .ok (.iload 4, 2) := by decide +kernel
theorem dL_law_981 : decode cL_law 981 = .ok (.iconst 2, 1) := by decide +kernel
theorem dL_law_982 : decode cL_law 982 = .ok (.iadd, 1) := by decide +kernel
theorem dL_law_983 : decode cL_law 983 = .ok (.iaload, 1) := by decide +kernel
theorem dL_law_984 : decode cL_law 984 = .ok (.aload_n 3, 1) := by decide +kernel
theorem dL_law_985 : decode cL_law 985 = .ok (.invokestatic 192, 3) := by decide +kernel
theorem dL_law_988 : decode cL_law 988 = .ok (.istore 5, 2) := by decide +kernel
theorem dL_law_990 : decode cL_law 990 = .ok (.aload_n 2, 1) := by decide +kernel
theorem dL_law_991 : decode cL_law 991 = .ok (.aload_n 0, 1) := by decide +kernel
theorem dL_law_992 : decode cL_law 992 = .ok (.iload 4, 2) := by decide +kernel
theorem dL_law_994 : decode cL_law 994 = .ok (.iconst 1, 1) := by decide +kernel
theorem dL_law_995 : decode cL_law 995 = .ok (.iadd, 1) := by decide +kernel
theorem dL_law_996 : decode cL_law 996 = .ok (.iaload, 1) := by decide +kernel
theorem dL_law_997 : decode cL_law 997 = .ok (.aload_n 0, 1) := by decide +kernel
theorem dL_law_998 : decode cL_law 998 = .ok (.iload 4, 2) := by decide +kernel
theorem dL_law_1000 : decode cL_law 1000 = .ok (.iconst 2, 1) := by decide +kernel
theorem dL_law_1001 : decode cL_law 1001 = .ok (.iadd, 1) := by decide +kernel
theorem dL_law_1002 : decode cL_law 1002 = .ok (.iaload, 1) := by decide +kernel
theorem dL_law_1003 : decode cL_law 1003 = .ok (.invokevirtual 194, 3) := by decide +kernel
theorem dL_law_1006 : decode cL_law 1006 = .ok (.istore 6, 2) := by decide +kernel
theorem dL_law_1008 : decode cL_law 1008 = .ok (.aload_n 2, 1) := by decide +kernel
theorem dL_law_1009 : decode cL_law 1009 = .ok (.invokevirtual 164, 3) := by decide +kernel
theorem dL_law_1012 : decode cL_law 1012 = .ok (.iload 5, 2) := by decide +kernel
theorem dL_law_1014 : decode cL_law 1014 = .ok (.if_icmp .eq 5, 3) := by decide +kernel
theorem dL_law_1017 : decode cL_law 1017 = .ok (.iconst 0, 1) := by decide +kernel
theorem dL_law_1018 : decode cL_law 1018 = .ok (.ireturn, 1) := by decide +kernel
theorem dL_law_1019 : decode cL_law 1019 = .ok (.iload 5, 2) := by decide +kernel
theorem dL_law_1021 : decode cL_law 1021 = .ok (.ifCond .ne 15, 3) := by decide +kernel
theorem dL_law_1024 : decode cL_law 1024 = .ok (.aload_n 3, 1) := by decide +kernel
theorem dL_law_1025 : decode cL_law 1025 = .ok (.iconst 0, 1) := by decide +kernel
theorem dL_law_1026 : decode cL_law 1026 = .ok (.laload, 1) := by decide +kernel
theorem dL_law_1027 : decode cL_law 1027 = .ok (.iload 6, 2) := by decide +kernel
theorem dL_law_1029 : decode cL_law 1029 = .ok (.i2l, 1) := by decide +kernel
theorem dL_law_1030 : decode cL_law 1030 = .ok (.lcmp, 1) := by decide +kernel
theorem dL_law_1031 : decode cL_law 1031 = .ok (.ifCond .eq 5, 3) := by decide +kernel
theorem dL_law_1034 : decode cL_law 1034 = .ok (.iconst 0, 1) := by decide +kernel
theorem dL_law_1035 : decode cL_law 1035 = .ok (.ireturn, 1) := by decide +kernel
theorem dL_law_1036 : decode cL_law 1036 = .ok (.goto 1618, 3) := by decide +kernel
theorem dL_law_1039 : decode cL_law 1039 = .ok (.aload_n 1, 1) := by decide +kernel
theorem dL_law_1040 : decode cL_law 1040 = .ok (.aload_n 0, 1) := by decide +kernel
theorem dL_law_1041 : decode cL_law 1041 = .ok (.iload 4, 2) := by decide +kernel
theorem dL_law_1043 : decode cL_law 1043 = .ok (.iconst 1, 1) := by decide +kernel
theorem dL_law_1044 : decode cL_law 1044 = .ok (.iadd, 1) := by decide +kernel
theorem dL_law_1045 : decode cL_law 1045 = .ok (.iaload, 1) := by decide +kernel
theorem dL_law_1046 : decode cL_law 1046 = .ok (.aload_n 3, 1) := by decide +kernel
theorem dL_law_1047 : decode cL_law 1047 = .ok (.invokestatic 195, 3) := by decide +kernel
theorem dL_law_1050 : decode cL_law 1050 = .ok (.istore 5, 2) := by decide +kernel
theorem dL_law_1052 : decode cL_law 1052 = .ok (.aload_n 2, 1) := by decide +kernel
theorem dL_law_1053 : decode cL_law 1053 = .ok (.aload_n 0, 1) := by decide +kernel
theorem dL_law_1054 : decode cL_law 1054 = .ok (.iload 4, 2) := by decide +kernel
theorem dL_law_1056 : decode cL_law 1056 = .ok (.iconst 1, 1) := by decide +kernel
theorem dL_law_1057 : decode cL_law 1057 = .ok (.iadd, 1) := by decide +kernel
theorem dL_law_1058 : decode cL_law 1058 = .ok (.iaload, 1) := by decide +kernel
theorem dL_law_1059 : decode cL_law 1059 = .ok (.invokevirtual 197, 3) := by decide +kernel
theorem dL_law_1062 : decode cL_law 1062 = .ok (.istore 6, 2) := by decide +kernel
theorem dL_law_1064 : decode cL_law 1064 = .ok (.aload_n 2, 1) := by decide +kernel
theorem dL_law_1065 : decode cL_law 1065 = .ok (.invokevirtual 164, 3) := by decide +kernel
theorem dL_law_1068 : decode cL_law 1068 = .ok (.iload 5, 2) := by decide +kernel
theorem dL_law_1070 : decode cL_law 1070 = .ok (.if_icmp .eq 5, 3) := by decide +kernel
theorem dL_law_1073 : decode cL_law 1073 = .ok (.iconst 0, 1) := by decide +kernel
theorem dL_law_1074 : decode cL_law 1074 = .ok (.ireturn, 1) := by decide +kernel
theorem dL_law_1075 : decode cL_law 1075 = .ok (.iload 5, 2) := by decide +kernel
theorem dL_law_1077 : decode cL_law 1077 = .ok (.ifCond .ne 15, 3) := by decide +kernel
theorem dL_law_1080 : decode cL_law 1080 = .ok (.aload_n 3, 1) := by decide +kernel
theorem dL_law_1081 : decode cL_law 1081 = .ok (.iconst 0, 1) := by decide +kernel
theorem dL_law_1082 : decode cL_law 1082 = .ok (.laload, 1) := by decide +kernel
theorem dL_law_1083 : decode cL_law 1083 = .ok (.iload 6, 2) := by decide +kernel
theorem dL_law_1085 : decode cL_law 1085 = .ok (.i2l, 1) := by decide +kernel
theorem dL_law_1086 : decode cL_law 1086 = .ok (.lcmp, 1) := by decide +kernel
theorem dL_law_1087 : decode cL_law 1087 = .ok (.ifCond .eq 5, 3) := by decide +kernel
theorem dL_law_1090 : decode cL_law 1090 = .ok (.iconst 0, 1) := by decide +kernel
theorem dL_law_1091 : decode cL_law 1091 = .ok (.ireturn, 1) := by decide +kernel
theorem dL_law_1092 : decode cL_law 1092 = .ok (.goto 1562, 3) := by decide +kernel
theorem dL_law_1095 : decode cL_law 1095 = .ok (.aload_n 1, 1) := by decide +kernel
theorem dL_law_1096 : decode cL_law 1096 = .ok (.aload_n 0, 1) := by decide +kernel
theorem dL_law_1097 : decode cL_law 1097 = .ok (.iload 4, 2) := by decide +kernel
theorem dL_law_1099 : decode cL_law 1099 = .ok (.iconst 1, 1) := by decide +kernel
theorem dL_law_1100 : decode cL_law 1100 = .ok (.iadd, 1) := by decide +kernel
theorem dL_law_1101 : decode cL_law 1101 = .ok (.iaload, 1) := by decide +kernel
theorem dL_law_1102 : decode cL_law 1102 = .ok (.aload_n 0, 1) := by decide +kernel
theorem dL_law_1103 : decode cL_law 1103 = .ok (.iload 4, 2) := by decide +kernel
theorem dL_law_1105 : decode cL_law 1105 = .ok (.iconst 2, 1) := by decide +kernel
theorem dL_law_1106 : decode cL_law 1106 = .ok (.iadd, 1) := by decide +kernel
theorem dL_law_1107 : decode cL_law 1107 = .ok (.iaload, 1) := by decide +kernel
theorem dL_law_1108 : decode cL_law 1108 = .ok (.aload_n 3, 1) := by decide +kernel
theorem dL_law_1109 : decode cL_law 1109 = .ok (.invokestatic 198, 3) := by decide +kernel
theorem dL_law_1112 : decode cL_law 1112 = .ok (.istore 5, 2) := by decide +kernel
theorem dL_law_1114 : decode cL_law 1114 = .ok (.aload_n 2, 1) := by decide +kernel
theorem dL_law_1115 : decode cL_law 1115 = .ok (.aload_n 0, 1) := by decide +kernel
theorem dL_law_1116 : decode cL_law 1116 = .ok (.iload 4, 2) := by decide +kernel
theorem dL_law_1118 : decode cL_law 1118 = .ok (.iconst 1, 1) := by decide +kernel
theorem dL_law_1119 : decode cL_law 1119 = .ok (.iadd, 1) := by decide +kernel
theorem dL_law_1120 : decode cL_law 1120 = .ok (.iaload, 1) := by decide +kernel
theorem dL_law_1121 : decode cL_law 1121 = .ok (.aload_n 0, 1) := by decide +kernel
theorem dL_law_1122 : decode cL_law 1122 = .ok (.iload 4, 2) := by decide +kernel
theorem dL_law_1124 : decode cL_law 1124 = .ok (.iconst 2, 1) := by decide +kernel
theorem dL_law_1125 : decode cL_law 1125 = .ok (.iadd, 1) := by decide +kernel
theorem dL_law_1126 : decode cL_law 1126 = .ok (.iaload, 1) := by decide +kernel
theorem dL_law_1127 : decode cL_law 1127 = .ok (.invokevirtual 200, 3) := by decide +kernel
theorem dL_law_1130 : decode cL_law 1130 = .ok (.istore 6, 2) := by decide +kernel
theorem dL_law_1132 : decode cL_law 1132 = .ok (.aload_n 2, 1) := by decide +kernel
theorem dL_law_1133 : decode cL_law 1133 = .ok (.invokevirtual 164, 3) := by decide +kernel
theorem dL_law_1136 : decode cL_law 1136 = .ok (.iload 5, 2) := by decide +kernel
theorem dL_law_1138 : decode cL_law 1138 = .ok (.if_icmp .eq 5, 3) := by decide +kernel
theorem dL_law_1141 : decode cL_law 1141 = .ok (.iconst 0, 1) := by decide +kernel
theorem dL_law_1142 : decode cL_law 1142 = .ok (.ireturn, 1) := by decide +kernel
theorem dL_law_1143 : decode cL_law 1143 = .ok (.iload 5, 2) := by decide +kernel
theorem dL_law_1145 : decode cL_law 1145 = .ok (.ifCond .ne 15, 3) := by decide +kernel
theorem dL_law_1148 : decode cL_law 1148 = .ok (.aload_n 3, 1) := by decide +kernel
theorem dL_law_1149 : decode cL_law 1149 = .ok (.iconst 0, 1) := by decide +kernel
theorem dL_law_1150 : decode cL_law 1150 = .ok (.laload, 1) := by decide +kernel
theorem dL_law_1151 : decode cL_law 1151 = .ok (.iload 6, 2) := by decide +kernel
theorem dL_law_1153 : decode cL_law 1153 = .ok (.i2l, 1) := by decide +kernel
theorem dL_law_1154 : decode cL_law 1154 = .ok (.lcmp, 1) := by decide +kernel
theorem dL_law_1155 : decode cL_law 1155 = .ok (.ifCond .eq 5, 3) := by decide +kernel
theorem dL_law_1158 : decode cL_law 1158 = .ok (.iconst 0, 1) := by decide +kernel
theorem dL_law_1159 : decode cL_law 1159 = .ok (.ireturn, 1) := by decide +kernel
theorem dL_law_1160 : decode cL_law 1160 = .ok (.goto 1494, 3) := by decide +kernel
theorem dL_law_1163 : decode cL_law 1163 = .ok (.aload_n 1, 1) := by decide +kernel
theorem dL_law_1164 : decode cL_law 1164 = .ok (.invokevirtual 201, 3) := by decide +kernel
theorem dL_law_1167 : decode cL_law 1167 = .ok (.aload_n 2, 1) := by decide +kernel
theorem dL_law_1168 : decode cL_law 1168 = .ok (.invokevirtual 204, 3) := by decide +kernel
theorem dL_law_1171 : decode cL_law 1171 = .ok (.if_icmp .eq 1483, 3) := by decide +kernel
theorem dL_law_1174 : decode cL_law 1174 = .ok (.iconst 0, 1) := by decide +kernel
theorem dL_law_1175 : decode cL_law 1175 = .ok (.ireturn, 1) := by decide +kernel
theorem dL_law_1176 : decode cL_law 1176 = .ok (.aload_n 1, 1) := by decide +kernel
theorem dL_law_1177 : decode cL_law 1177 = .ok (.invokevirtual 205, 3) := by decide +kernel
theorem dL_law_1180 : decode cL_law 1180 = .ok (.aload_n 2, 1) := by decide +kernel
theorem dL_law_1181 : decode cL_law 1181 = .ok (.invokevirtual 208, 3) := by decide +kernel
theorem dL_law_1184 : decode cL_law 1184 = .ok (.if_icmp .eq 1470, 3) := by decide +kernel
theorem dL_law_1187 : decode cL_law 1187 = .ok (.iconst 0, 1) := by decide +kernel
theorem dL_law_1188 : decode cL_law 1188 = .ok (.ireturn, 1) := by decide +kernel
theorem dL_law_1189 : decode cL_law 1189 = .ok (.aload_n 1, 1) := by decide +kernel
theorem dL_law_1190 : decode cL_law 1190 = .ok (.invokevirtual 209, 3) := by decide +kernel
theorem dL_law_1193 : decode cL_law 1193 = .ok (.aload_n 2, 1) := by decide +kernel
theorem dL_law_1194 : decode cL_law 1194 = .ok (.invokevirtual 212, 3) := by decide +kernel
theorem dL_law_1197 : decode cL_law 1197 = .ok (.if_icmp .eq 1457, 3) := by decide +kernel
theorem dL_law_1200 : decode cL_law 1200 = .ok (.iconst 0, 1) := by decide +kernel
theorem dL_law_1201 : decode cL_law 1201 = .ok (.ireturn, 1) := by decide +kernel
theorem dL_law_1202 : decode cL_law 1202 = .ok (.aload_n 1, 1) := by decide +kernel
theorem dL_law_1203 : decode cL_law 1203 = .ok (.aload_n 0, 1) := by decide +kernel
theorem dL_law_1204 : decode cL_law 1204 = .ok (.iload 4, 2) := by decide +kernel
theorem dL_law_1206 : decode cL_law 1206 = .ok (.iconst 1, 1) := by decide +kernel
theorem dL_law_1207 : decode cL_law 1207 = .ok (.iadd, 1) := by decide +kernel
theorem dL_law_1208 : decode cL_law 1208 = .ok (.iaload, 1) := by decide +kernel
theorem dL_law_1209 : decode cL_law 1209 = .ok (.aload_n 3, 1) := by decide +kernel
theorem dL_law_1210 : decode cL_law 1210 = .ok (.invokestatic 213, 3) := by decide +kernel
theorem dL_law_1213 : decode cL_law 1213 = .ok (.istore 5, 2) := by decide +kernel
theorem dL_law_1215 : decode cL_law 1215 = .ok (.aload_n 2, 1) := by decide +kernel
theorem dL_law_1216 : decode cL_law 1216 = .ok (.aload_n 0, 1) := by decide +kernel
theorem dL_law_1217 : decode cL_law 1217 = .ok (.iload 4, 2) := by decide +kernel
theorem dL_law_1219 : decode cL_law 1219 = .ok (.iconst 1, 1) := by decide +kernel
theorem dL_law_1220 : decode cL_law 1220 = .ok (.iadd, 1) := by decide +kernel
theorem dL_law_1221 : decode cL_law 1221 = .ok (.iaload, 1) := by decide +kernel
theorem dL_law_1222 : decode cL_law 1222 = .ok (.invokevirtual 215, 3) := by decide +kernel
theorem dL_law_1225 : decode cL_law 1225 = .ok (.istore 6, 2) := by decide +kernel
theorem dL_law_1227 : decode cL_law 1227 = .ok (.aload_n 2, 1) := by decide +kernel
theorem dL_law_1228 : decode cL_law 1228 = .ok (.invokevirtual 164, 3) := by decide +kernel
theorem dL_law_1231 : decode cL_law 1231 = .ok (.iload 5, 2) := by decide +kernel
theorem dL_law_1233 : decode cL_law 1233 = .ok (.if_icmp .eq 5, 3) := by decide +kernel
theorem dL_law_1236 : decode cL_law 1236 = .ok (.iconst 0, 1) := by decide +kernel
theorem dL_law_1237 : decode cL_law 1237 = .ok (.ireturn, 1) := by decide +kernel
theorem dL_law_1238 : decode cL_law 1238 = .ok (.iload 5, 2) := by decide +kernel
theorem dL_law_1240 : decode cL_law 1240 = .ok (.ifCond .ne 15, 3) := by decide +kernel
theorem dL_law_1243 : decode cL_law 1243 = .ok (.aload_n 3, 1) := by decide +kernel
theorem dL_law_1244 : decode cL_law 1244 = .ok (.iconst 0, 1) := by decide +kernel
theorem dL_law_1245 : decode cL_law 1245 = .ok (.laload, 1) := by decide +kernel
theorem dL_law_1246 : decode cL_law 1246 = .ok (.iload 6, 2) := by decide +kernel
theorem dL_law_1248 : decode cL_law 1248 = .ok (.i2l, 1) := by decide +kernel
theorem dL_law_1249 : decode cL_law 1249 = .ok (.lcmp, 1) := by decide +kernel
theorem dL_law_1250 : decode cL_law 1250 = .ok (.ifCond .eq 5, 3) := by decide +kernel
theorem dL_law_1253 : decode cL_law 1253 = .ok (.iconst 0, 1) := by decide +kernel
theorem dL_law_1254 : decode cL_law 1254 = .ok (.ireturn, 1) := by decide +kernel
theorem dL_law_1255 : decode cL_law 1255 = .ok (.goto 1399, 3) := by decide +kernel
theorem dL_law_1258 : decode cL_law 1258 = .ok (.aload_n 1, 1) := by decide +kernel
theorem dL_law_1259 : decode cL_law 1259 = .ok (.aload_n 0, 1) := by decide +kernel
theorem dL_law_1260 : decode cL_law 1260 = .ok (.iload 4, 2) := by decide +kernel
theorem dL_law_1262 : decode cL_law 1262 = .ok (.iconst 1, 1) := by decide +kernel
theorem dL_law_1263 : decode cL_law 1263 = .ok (.iadd, 1) := by decide +kernel
theorem dL_law_1264 : decode cL_law 1264 = .ok (.iaload, 1) := by decide +kernel
theorem dL_law_1265 : decode cL_law 1265 = .ok (.aload_n 3, 1) := by decide +kernel
theorem dL_law_1266 : decode cL_law 1266 = .ok (.invokestatic 216, 3) := by decide +kernel
theorem dL_law_1269 : decode cL_law 1269 = .ok (.istore 5, 2) := by decide +kernel
theorem dL_law_1271 : decode cL_law 1271 = .ok (.aload_n 2, 1) := by decide +kernel
theorem dL_law_1272 : decode cL_law 1272 = .ok (.aload_n 0, 1) := by decide +kernel
theorem dL_law_1273 : decode cL_law 1273 = .ok (.iload 4, 2) := by decide +kernel
theorem dL_law_1275 : decode cL_law 1275 = .ok (.iconst 1, 1) := by decide +kernel
theorem dL_law_1276 : decode cL_law 1276 = .ok (.iadd, 1) := by decide +kernel
theorem dL_law_1277 : decode cL_law 1277 = .ok (.iaload, 1) := by decide +kernel
theorem dL_law_1278 : decode cL_law 1278 = .ok (.invokevirtual 218, 3) := by decide +kernel
theorem dL_law_1281 : decode cL_law 1281 = .ok (.istore 6, 2) := by decide +kernel
theorem dL_law_1283 : decode cL_law 1283 = .ok (.aload_n 2, 1) := by decide +kernel
theorem dL_law_1284 : decode cL_law 1284 = .ok (.invokevirtual 164, 3) := by decide +kernel
theorem dL_law_1287 : decode cL_law 1287 = .ok (.iload 5, 2) := by decide +kernel
theorem dL_law_1289 : decode cL_law 1289 = .ok (.if_icmp .eq 5, 3) := by decide +kernel
theorem dL_law_1292 : decode cL_law 1292 = .ok (.iconst 0, 1) := by decide +kernel
theorem dL_law_1293 : decode cL_law 1293 = .ok (.ireturn, 1) := by decide +kernel
theorem dL_law_1294 : decode cL_law 1294 = .ok (.iload 5, 2) := by decide +kernel
theorem dL_law_1296 : decode cL_law 1296 = .ok (.ifCond .ne 15, 3) := by decide +kernel
theorem dL_law_1299 : decode cL_law 1299 = .ok (.aload_n 3, 1) := by decide +kernel
theorem dL_law_1300 : decode cL_law 1300 = .ok (.iconst 0, 1) := by decide +kernel
theorem dL_law_1301 : decode cL_law 1301 = .ok (.laload, 1) := by decide +kernel
theorem dL_law_1302 : decode cL_law 1302 = .ok (.iload 6, 2) := by decide +kernel
theorem dL_law_1304 : decode cL_law 1304 = .ok (.i2l, 1) := by decide +kernel
theorem dL_law_1305 : decode cL_law 1305 = .ok (.lcmp, 1) := by decide +kernel
theorem dL_law_1306 : decode cL_law 1306 = .ok (.ifCond .eq 5, 3) := by decide +kernel
theorem dL_law_1309 : decode cL_law 1309 = .ok (.iconst 0, 1) := by decide +kernel
theorem dL_law_1310 : decode cL_law 1310 = .ok (.ireturn, 1) := by decide +kernel
theorem dL_law_1311 : decode cL_law 1311 = .ok (.goto 1343, 3) := by decide +kernel
theorem dL_law_1314 : decode cL_law 1314 = .ok (.aload_n 1, 1) := by decide +kernel
theorem dL_law_1315 : decode cL_law 1315 = .ok (.aload_n 0, 1) := by decide +kernel
theorem dL_law_1316 : decode cL_law 1316 = .ok (.iload 4, 2) := by decide +kernel
theorem dL_law_1318 : decode cL_law 1318 = .ok (.iconst 1, 1) := by decide +kernel
theorem dL_law_1319 : decode cL_law 1319 = .ok (.iadd, 1) := by decide +kernel
theorem dL_law_1320 : decode cL_law 1320 = .ok (.iaload, 1) := by decide +kernel
theorem dL_law_1321 : decode cL_law 1321 = .ok (.aload_n 0, 1) := by decide +kernel
theorem dL_law_1322 : decode cL_law 1322 = .ok (.iload 4, 2) := by decide +kernel
theorem dL_law_1324 : decode cL_law 1324 = .ok (.iconst 2, 1) := by decide +kernel
theorem dL_law_1325 : decode cL_law 1325 = .ok (.iadd, 1) := by decide +kernel
theorem dL_law_1326 : decode cL_law 1326 = .ok (.iaload, 1) := by decide +kernel
theorem dL_law_1327 : decode cL_law 1327 = .ok (.aload_n 3, 1) := by decide +kernel
theorem dL_law_1328 : decode cL_law 1328 = .ok (.invokestatic 219, 3) := by decide +kernel
theorem dL_law_1331 : decode cL_law 1331 = .ok (.istore 5, 2) := by decide +kernel
theorem dL_law_1333 : decode cL_law 1333 = .ok (.aload_n 2, 1) := by decide +kernel
theorem dL_law_1334 : decode cL_law 1334 = .ok (.aload_n 0, 1) := by decide +kernel
theorem dL_law_1335 : decode cL_law 1335 = .ok (.iload 4, 2) := by decide +kernel
theorem dL_law_1337 : decode cL_law 1337 = .ok (.iconst 1, 1) := by decide +kernel
theorem dL_law_1338 : decode cL_law 1338 = .ok (.iadd, 1) := by decide +kernel
theorem dL_law_1339 : decode cL_law 1339 = .ok (.iaload, 1) := by decide +kernel
theorem dL_law_1340 : decode cL_law 1340 = .ok (.aload_n 0, 1) := by decide +kernel
theorem dL_law_1341 : decode cL_law 1341 = .ok (.iload 4, 2) := by decide +kernel
theorem dL_law_1343 : decode cL_law 1343 = .ok (.iconst 2, 1) := by decide +kernel
theorem dL_law_1344 : decode cL_law 1344 = .ok (.iadd, 1) := by decide +kernel
theorem dL_law_1345 : decode cL_law 1345 = .ok (.iaload, 1) := by decide +kernel
theorem dL_law_1346 : decode cL_law 1346 = .ok (.invokevirtual 221, 3) := by decide +kernel
theorem dL_law_1349 : decode cL_law 1349 = .ok (.istore 6, 2) := by decide +kernel
theorem dL_law_1351 : decode cL_law 1351 = .ok (.aload_n 2, 1) := by decide +kernel
theorem dL_law_1352 : decode cL_law 1352 = .ok (.invokevirtual 164, 3) := by decide +kernel
theorem dL_law_1355 : decode cL_law 1355 = .ok (.iload 5, 2) := by decide +kernel
theorem dL_law_1357 : decode cL_law 1357 = .ok (.if_icmp .eq 5, 3) := by decide +kernel
theorem dL_law_1360 : decode cL_law 1360 = .ok (.iconst 0, 1) := by decide +kernel
theorem dL_law_1361 : decode cL_law 1361 = .ok (.ireturn, 1) := by decide +kernel
theorem dL_law_1362 : decode cL_law 1362 = .ok (.iload 5, 2) := by decide +kernel
theorem dL_law_1364 : decode cL_law 1364 = .ok (.ifCond .ne 15, 3) := by decide +kernel
theorem dL_law_1367 : decode cL_law 1367 = .ok (.aload_n 3, 1) := by decide +kernel
theorem dL_law_1368 : decode cL_law 1368 = .ok (.iconst 0, 1) := by decide +kernel
theorem dL_law_1369 : decode cL_law 1369 = .ok (.laload, 1) := by decide +kernel
theorem dL_law_1370 : decode cL_law 1370 = .ok (.iload 6, 2) := by decide +kernel
theorem dL_law_1372 : decode cL_law 1372 = .ok (.i2l, 1) := by decide +kernel
theorem dL_law_1373 : decode cL_law 1373 = .ok (.lcmp, 1) := by decide +kernel
theorem dL_law_1374 : decode cL_law 1374 = .ok (.ifCond .eq 5, 3) := by decide +kernel
theorem dL_law_1377 : decode cL_law 1377 = .ok (.iconst 0, 1) := by decide +kernel
theorem dL_law_1378 : decode cL_law 1378 = .ok (.ireturn, 1) := by decide +kernel
theorem dL_law_1379 : decode cL_law 1379 = .ok (.goto 1275, 3) := by decide +kernel
theorem dL_law_1382 : decode cL_law 1382 = .ok (.aload_n 1, 1) := by decide +kernel
theorem dL_law_1383 : decode cL_law 1383 = .ok (.aload_n 0, 1) := by decide +kernel
theorem dL_law_1384 : decode cL_law 1384 = .ok (.iload 4, 2) := by decide +kernel
theorem dL_law_1386 : decode cL_law 1386 = .ok (.iconst 1, 1) := by decide +kernel
theorem dL_law_1387 : decode cL_law 1387 = .ok (.iadd, 1) := by decide +kernel
theorem dL_law_1388 : decode cL_law 1388 = .ok (.iaload, 1) := by decide +kernel
theorem dL_law_1389 : decode cL_law 1389 = .ok (.aload_n 3, 1) := by decide +kernel
theorem dL_law_1390 : decode cL_law 1390 = .ok (.invokestatic 222, 3) := by decide +kernel
theorem dL_law_1393 : decode cL_law 1393 = .ok (.istore 5, 2) := by decide +kernel
theorem dL_law_1395 : decode cL_law 1395 = .ok (.aload_n 2, 1) := by decide +kernel
theorem dL_law_1396 : decode cL_law 1396 = .ok (.aload_n 0, 1) := by decide +kernel
theorem dL_law_1397 : decode cL_law 1397 = .ok (.iload 4, 2) := by decide +kernel
theorem dL_law_1399 : decode cL_law 1399 = .ok (.iconst 1, 1) := by decide +kernel
theorem dL_law_1400 : decode cL_law 1400 = .ok (.iadd, 1) := by decide +kernel
theorem dL_law_1401 : decode cL_law 1401 = .ok (.iaload, 1) := by decide +kernel
theorem dL_law_1402 : decode cL_law 1402 = .ok (.invokevirtual 224, 3) := by decide +kernel
theorem dL_law_1405 : decode cL_law 1405 = .ok (.istore 6, 2) := by decide +kernel
theorem dL_law_1407 : decode cL_law 1407 = .ok (.aload_n 2, 1) := by decide +kernel
theorem dL_law_1408 : decode cL_law 1408 = .ok (.invokevirtual 164, 3) := by decide +kernel
theorem dL_law_1411 : decode cL_law 1411 = .ok (.iload 5, 2) := by decide +kernel
theorem dL_law_1413 : decode cL_law 1413 = .ok (.if_icmp .eq 5, 3) := by decide +kernel
theorem dL_law_1416 : decode cL_law 1416 = .ok (.iconst 0, 1) := by decide +kernel
theorem dL_law_1417 : decode cL_law 1417 = .ok (.ireturn, 1) := by decide +kernel
theorem dL_law_1418 : decode cL_law 1418 = .ok (.iload 5, 2) := by decide +kernel
theorem dL_law_1420 : decode cL_law 1420 = .ok (.ifCond .ne 15, 3) := by decide +kernel
theorem dL_law_1423 : decode cL_law 1423 = .ok (.aload_n 3, 1) := by decide +kernel
theorem dL_law_1424 : decode cL_law 1424 = .ok (.iconst 0, 1) := by decide +kernel
theorem dL_law_1425 : decode cL_law 1425 = .ok (.laload, 1) := by decide +kernel
theorem dL_law_1426 : decode cL_law 1426 = .ok (.iload 6, 2) := by decide +kernel
theorem dL_law_1428 : decode cL_law 1428 = .ok (.i2l, 1) := by decide +kernel
theorem dL_law_1429 : decode cL_law 1429 = .ok (.lcmp, 1) := by decide +kernel
theorem dL_law_1430 : decode cL_law 1430 = .ok (.ifCond .eq 5, 3) := by decide +kernel
theorem dL_law_1433 : decode cL_law 1433 = .ok (.iconst 0, 1) := by decide +kernel
theorem dL_law_1434 : decode cL_law 1434 = .ok (.ireturn, 1) := by decide +kernel
theorem dL_law_1435 : decode cL_law 1435 = .ok (.goto 1219, 3) := by decide +kernel
theorem dL_law_1438 : decode cL_law 1438 = .ok (.aload_n 1, 1) := by decide +kernel
theorem dL_law_1439 : decode cL_law 1439 = .ok (.aload_n 0, 1) := by decide +kernel
theorem dL_law_1440 : decode cL_law 1440 = .ok (.iload 4, 2) := by decide +kernel
theorem dL_law_1442 : decode cL_law 1442 = .ok (.iconst 1, 1) := by decide +kernel
theorem dL_law_1443 : decode cL_law 1443 = .ok (.iadd, 1) := by decide +kernel
theorem dL_law_1444 : decode cL_law 1444 = .ok (.iaload, 1) := by decide +kernel
theorem dL_law_1445 : decode cL_law 1445 = .ok (.aload_n 3, 1) := by decide +kernel
theorem dL_law_1446 : decode cL_law 1446 = .ok (.invokestatic 225, 3) := by decide +kernel
theorem dL_law_1449 : decode cL_law 1449 = .ok (.istore 5, 2) := by decide +kernel
theorem dL_law_1451 : decode cL_law 1451 = .ok (.aload_n 2, 1) := by decide +kernel
theorem dL_law_1452 : decode cL_law 1452 = .ok (.aload_n 0, 1) := by decide +kernel
theorem dL_law_1453 : decode cL_law 1453 = .ok (.iload 4, 2) := by decide +kernel
theorem dL_law_1455 : decode cL_law 1455 = .ok (.iconst 1, 1) := by decide +kernel
theorem dL_law_1456 : decode cL_law 1456 = .ok (.iadd, 1) := by decide +kernel
theorem dL_law_1457 : decode cL_law 1457 = .ok (.iaload, 1) := by decide +kernel
theorem dL_law_1458 : decode cL_law 1458 = .ok (.invokevirtual 227, 3) := by decide +kernel
theorem dL_law_1461 : decode cL_law 1461 = .ok (.istore 6, 2) := by decide +kernel
theorem dL_law_1463 : decode cL_law 1463 = .ok (.aload_n 2, 1) := by decide +kernel
theorem dL_law_1464 : decode cL_law 1464 = .ok (.invokevirtual 164, 3) := by decide +kernel
theorem dL_law_1467 : decode cL_law 1467 = .ok (.iload 5, 2) := by decide +kernel
theorem dL_law_1469 : decode cL_law 1469 = .ok (.if_icmp .eq 5, 3) := by decide +kernel
theorem dL_law_1472 : decode cL_law 1472 = .ok (.iconst 0, 1) := by decide +kernel
theorem dL_law_1473 : decode cL_law 1473 = .ok (.ireturn, 1) := by decide +kernel
theorem dL_law_1474 : decode cL_law 1474 = .ok (.iload 5, 2) := by decide +kernel
theorem dL_law_1476 : decode cL_law 1476 = .ok (.ifCond .ne 22, 3) := by decide +kernel
theorem dL_law_1479 : decode cL_law 1479 = .ok (.aload_n 3, 1) := by decide +kernel
theorem dL_law_1480 : decode cL_law 1480 = .ok (.iconst 0, 1) := by decide +kernel
theorem dL_law_1481 : decode cL_law 1481 = .ok (.laload, 1) := by decide +kernel
theorem dL_law_1482 : decode cL_law 1482 = .ok (.iload 6, 2) := by decide +kernel
theorem dL_law_1484 : decode cL_law 1484 = .ok (.ifCond .eq 7, 3) := by decide +kernel
theorem dL_law_1487 : decode cL_law 1487 = .ok (.lconst 1, 1) := by decide +kernel
theorem dL_law_1488 : decode cL_law 1488 = .ok (.goto 4, 3) := by decide +kernel
theorem dL_law_1491 : decode cL_law 1491 = .ok (.lconst 0, 1) := by decide +kernel
theorem dL_law_1492 : decode cL_law 1492 = .ok (.lcmp, 1) := by decide +kernel
theorem dL_law_1493 : decode cL_law 1493 = .ok (.ifCond .eq 5, 3) := by decide +kernel
theorem dL_law_1496 : decode cL_law 1496 = .ok (.iconst 0, 1) := by decide +kernel
theorem dL_law_1497 : decode cL_law 1497 = .ok (.ireturn, 1) := by decide +kernel
theorem dL_law_1498 : decode cL_law 1498 = .ok (.goto 1156, 3) := by decide +kernel
theorem dL_law_1501 : decode cL_law 1501 = .ok (.aload_n 1, 1) := by decide +kernel
theorem dL_law_1502 : decode cL_law 1502 = .ok (.aload_n 0, 1) := by decide +kernel
theorem dL_law_1503 : decode cL_law 1503 = .ok (.iload 4, 2) := by decide +kernel
theorem dL_law_1505 : decode cL_law 1505 = .ok (.iconst 1, 1) := by decide +kernel
theorem dL_law_1506 : decode cL_law 1506 = .ok (.iadd, 1) := by decide +kernel
theorem dL_law_1507 : decode cL_law 1507 = .ok (.iaload, 1) := by decide +kernel
theorem dL_law_1508 : decode cL_law 1508 = .ok (.aload_n 3, 1) := by decide +kernel
theorem dL_law_1509 : decode cL_law 1509 = .ok (.invokestatic 228, 3) := by decide +kernel
theorem dL_law_1512 : decode cL_law 1512 = .ok (.istore 5, 2) := by decide +kernel
theorem dL_law_1514 : decode cL_law 1514 = .ok (.aload_n 2, 1) := by decide +kernel
theorem dL_law_1515 : decode cL_law 1515 = .ok (.aload_n 0, 1) := by decide +kernel
theorem dL_law_1516 : decode cL_law 1516 = .ok (.iload 4, 2) := by decide +kernel
theorem dL_law_1518 : decode cL_law 1518 = .ok (.iconst 1, 1) := by decide +kernel
theorem dL_law_1519 : decode cL_law 1519 = .ok (.iadd, 1) := by decide +kernel
theorem dL_law_1520 : decode cL_law 1520 = .ok (.iaload, 1) := by decide +kernel
theorem dL_law_1521 : decode cL_law 1521 = .ok (.invokevirtual 230, 3) := by decide +kernel
theorem dL_law_1524 : decode cL_law 1524 = .ok (.istore 6, 2) := by decide +kernel
theorem dL_law_1526 : decode cL_law 1526 = .ok (.aload_n 2, 1) := by decide +kernel
theorem dL_law_1527 : decode cL_law 1527 = .ok (.invokevirtual 164, 3) := by decide +kernel
theorem dL_law_1530 : decode cL_law 1530 = .ok (.iload 5, 2) := by decide +kernel
theorem dL_law_1532 : decode cL_law 1532 = .ok (.if_icmp .eq 5, 3) := by decide +kernel
theorem dL_law_1535 : decode cL_law 1535 = .ok (.iconst 0, 1) := by decide +kernel
theorem dL_law_1536 : decode cL_law 1536 = .ok (.ireturn, 1) := by decide +kernel
theorem dL_law_1537 : decode cL_law 1537 = .ok (.iload 5, 2) := by decide +kernel
theorem dL_law_1539 : decode cL_law 1539 = .ok (.ifCond .ne 15, 3) := by decide +kernel
theorem dL_law_1542 : decode cL_law 1542 = .ok (.aload_n 3, 1) := by decide +kernel
theorem dL_law_1543 : decode cL_law 1543 = .ok (.iconst 0, 1) := by decide +kernel
theorem dL_law_1544 : decode cL_law 1544 = .ok (.laload, 1) := by decide +kernel
theorem dL_law_1545 : decode cL_law 1545 = .ok (.iload 6, 2) := by decide +kernel
theorem dL_law_1547 : decode cL_law 1547 = .ok (.i2l, 1) := by decide +kernel
theorem dL_law_1548 : decode cL_law 1548 = .ok (.lcmp, 1) := by decide +kernel
theorem dL_law_1549 : decode cL_law 1549 = .ok (.ifCond .eq 5, 3) := by decide +kernel
theorem dL_law_1552 : decode cL_law 1552 = .ok (.iconst 0, 1) := by decide +kernel
theorem dL_law_1553 : decode cL_law 1553 = .ok (.ireturn, 1) := by decide +kernel
theorem dL_law_1554 : decode cL_law 1554 = .ok (.goto 1100, 3) := by decide +kernel
theorem dL_law_1557 : decode cL_law 1557 = .ok (.aload_n 1, 1) := by decide +kernel
theorem dL_law_1558 : decode cL_law 1558 = .ok (.aload_n 0, 1) := by decide +kernel
theorem dL_law_1559 : decode cL_law 1559 = .ok (.iload 4, 2) := by decide +kernel
theorem dL_law_1561 : decode cL_law 1561 = .ok (.iconst 1, 1) := by decide +kernel
theorem dL_law_1562 : decode cL_law 1562 = .ok (.iadd, 1) := by decide +kernel
theorem dL_law_1563 : decode cL_law 1563 = .ok (.iaload, 1) := by decide +kernel
theorem dL_law_1564 : decode cL_law 1564 = .ok (.aload_n 0, 1) := by decide +kernel
theorem dL_law_1565 : decode cL_law 1565 = .ok (.iload 4, 2) := by decide +kernel
theorem dL_law_1567 : decode cL_law 1567 = .ok (.iconst 2, 1) := by decide +kernel
theorem dL_law_1568 : decode cL_law 1568 = .ok (.iadd, 1) := by decide +kernel
theorem dL_law_1569 : decode cL_law 1569 = .ok (.iaload, 1) := by decide +kernel
theorem dL_law_1570 : decode cL_law 1570 = .ok (.aload_n 3, 1) := by decide +kernel
theorem dL_law_1571 : decode cL_law 1571 = .ok (.invokestatic 231, 3) := by decide +kernel
theorem dL_law_1574 : decode cL_law 1574 = .ok (.istore 5, 2) := by decide +kernel
theorem dL_law_1576 : decode cL_law 1576 = .ok (.aload_n 2, 1) := by decide +kernel
theorem dL_law_1577 : decode cL_law 1577 = .ok (.aload_n 0, 1) := by decide +kernel
theorem dL_law_1578 : decode cL_law 1578 = .ok (.iload 4, 2) := by decide +kernel
theorem dL_law_1580 : decode cL_law 1580 = .ok (.iconst 1, 1) := by decide +kernel
theorem dL_law_1581 : decode cL_law 1581 = .ok (.iadd, 1) := by decide +kernel
theorem dL_law_1582 : decode cL_law 1582 = .ok (.iaload, 1) := by decide +kernel
theorem dL_law_1583 : decode cL_law 1583 = .ok (.aload_n 0, 1) := by decide +kernel
theorem dL_law_1584 : decode cL_law 1584 = .ok (.iload 4, 2) := by decide +kernel
theorem dL_law_1586 : decode cL_law 1586 = .ok (.iconst 2, 1) := by decide +kernel
theorem dL_law_1587 : decode cL_law 1587 = .ok (.iadd, 1) := by decide +kernel
theorem dL_law_1588 : decode cL_law 1588 = .ok (.iaload, 1) := by decide +kernel
theorem dL_law_1589 : decode cL_law 1589 = .ok (.invokevirtual 233, 3) := by decide +kernel
theorem dL_law_1592 : decode cL_law 1592 = .ok (.istore 6, 2) := by decide +kernel
theorem dL_law_1594 : decode cL_law 1594 = .ok (.aload_n 2, 1) := by decide +kernel
theorem dL_law_1595 : decode cL_law 1595 = .ok (.invokevirtual 164, 3) := by decide +kernel
theorem dL_law_1598 : decode cL_law 1598 = .ok (.iload 5, 2) := by decide +kernel
theorem dL_law_1600 : decode cL_law 1600 = .ok (.if_icmp .eq 5, 3) := by decide +kernel
theorem dL_law_1603 : decode cL_law 1603 = .ok (.iconst 0, 1) := by decide +kernel
theorem dL_law_1604 : decode cL_law 1604 = .ok (.ireturn, 1) := by decide +kernel
theorem dL_law_1605 : decode cL_law 1605 = .ok (.iload 5, 2) := by decide +kernel
theorem dL_law_1607 : decode cL_law 1607 = .ok (.ifCond .ne 15, 3) := by decide +kernel
theorem dL_law_1610 : decode cL_law 1610 = .ok (.aload_n 3, 1) := by decide +kernel
theorem dL_law_1611 : decode cL_law 1611 = .ok (.iconst 0, 1) := by decide +kernel
theorem dL_law_1612 : decode cL_law 1612 = .ok (.laload, 1) := by decide +kernel
theorem dL_law_1613 : decode cL_law 1613 = .ok (.iload 6, 2) := by decide +kernel
theorem dL_law_1615 : decode cL_law 1615 = .ok (.i2l, 1) := by decide +kernel
theorem dL_law_1616 : decode cL_law 1616 = .ok (.lcmp, 1) := by decide +kernel
theorem dL_law_1617 : decode cL_law 1617 = .ok (.ifCond .eq 5, 3) := by decide +kernel
theorem dL_law_1620 : decode cL_law 1620 = .ok (.iconst 0, 1) := by decide +kernel
theorem dL_law_1621 : decode cL_law 1621 = .ok (.ireturn, 1) := by decide +kernel
theorem dL_law_1622 : decode cL_law 1622 = .ok (.goto 1032, 3) := by decide +kernel
theorem dL_law_1625 : decode cL_law 1625 = .ok (.aload_n 1, 1) := by decide +kernel
theorem dL_law_1626 : decode cL_law 1626 = .ok (.aload_n 0, 1) := by decide +kernel
theorem dL_law_1627 : decode cL_law 1627 = .ok (.iload 4, 2) := by decide +kernel
theorem dL_law_1629 : decode cL_law 1629 = .ok (.iconst 1, 1) := by decide +kernel
theorem dL_law_1630 : decode cL_law 1630 = .ok (.iadd, 1) := by decide +kernel
theorem dL_law_1631 : decode cL_law 1631 = .ok (.iaload, 1) := by decide +kernel
theorem dL_law_1632 : decode cL_law 1632 = .ok (.aload_n 3, 1) := by decide +kernel
theorem dL_law_1633 : decode cL_law 1633 = .ok (.invokestatic 234, 3) := by decide +kernel
theorem dL_law_1636 : decode cL_law 1636 = .ok (.istore 5, 2) := by decide +kernel
theorem dL_law_1638 : decode cL_law 1638 = .ok (.aload_n 2, 1) := by decide +kernel
theorem dL_law_1639 : decode cL_law 1639 = .ok (.aload_n 0, 1) := by decide +kernel
theorem dL_law_1640 : decode cL_law 1640 = .ok (.iload 4, 2) := by decide +kernel
theorem dL_law_1642 : decode cL_law 1642 = .ok (.iconst 1, 1) := by decide +kernel
theorem dL_law_1643 : decode cL_law 1643 = .ok (.iadd, 1) := by decide +kernel
theorem dL_law_1644 : decode cL_law 1644 = .ok (.iaload, 1) := by decide +kernel
theorem dL_law_1645 : decode cL_law 1645 = .ok (.invokevirtual 236, 3) := by decide +kernel
theorem dL_law_1648 : decode cL_law 1648 = .ok (.istore 6, 2) := by decide +kernel
theorem dL_law_1650 : decode cL_law 1650 = .ok (.aload_n 2, 1) := by decide +kernel
theorem dL_law_1651 : decode cL_law 1651 = .ok (.invokevirtual 164, 3) := by decide +kernel
theorem dL_law_1654 : decode cL_law 1654 = .ok (.iload 5, 2) := by decide +kernel
theorem dL_law_1656 : decode cL_law 1656 = .ok (.if_icmp .eq 5, 3) := by decide +kernel
theorem dL_law_1659 : decode cL_law 1659 = .ok (.iconst 0, 1) := by decide +kernel
theorem dL_law_1660 : decode cL_law 1660 = .ok (.ireturn, 1) := by decide +kernel
theorem dL_law_1661 : decode cL_law 1661 = .ok (.iload 5, 2) := by decide +kernel
theorem dL_law_1663 : decode cL_law 1663 = .ok (.ifCond .ne 15, 3) := by decide +kernel
theorem dL_law_1666 : decode cL_law 1666 = .ok (.aload_n 3, 1) := by decide +kernel
theorem dL_law_1667 : decode cL_law 1667 = .ok (.iconst 0, 1) := by decide +kernel
theorem dL_law_1668 : decode cL_law 1668 = .ok (.laload, 1) := by decide +kernel
theorem dL_law_1669 : decode cL_law 1669 = .ok (.iload 6, 2) := by decide +kernel
theorem dL_law_1671 : decode cL_law 1671 = .ok (.i2l, 1) := by decide +kernel
theorem dL_law_1672 : decode cL_law 1672 = .ok (.lcmp, 1) := by decide +kernel
theorem dL_law_1673 : decode cL_law 1673 = .ok (.ifCond .eq 5, 3) := by decide +kernel
theorem dL_law_1676 : decode cL_law 1676 = .ok (.iconst 0, 1) := by decide +kernel
theorem dL_law_1677 : decode cL_law 1677 = .ok (.ireturn, 1) := by decide +kernel
theorem dL_law_1678 : decode cL_law 1678 = .ok (.goto 976, 3) := by decide +kernel
theorem dL_law_1681 : decode cL_law 1681 = .ok (.aload_n 1, 1) := by decide +kernel
theorem dL_law_1682 : decode cL_law 1682 = .ok (.aload_n 0, 1) := by decide +kernel
theorem dL_law_1683 : decode cL_law 1683 = .ok (.iload 4, 2) := by decide +kernel
theorem dL_law_1685 : decode cL_law 1685 = .ok (.iconst 1, 1) := by decide +kernel
theorem dL_law_1686 : decode cL_law 1686 = .ok (.iadd, 1) := by decide +kernel
theorem dL_law_1687 : decode cL_law 1687 = .ok (.iaload, 1) := by decide +kernel
theorem dL_law_1688 : decode cL_law 1688 = .ok (.aload_n 0, 1) := by decide +kernel
theorem dL_law_1689 : decode cL_law 1689 = .ok (.iload 4, 2) := by decide +kernel
theorem dL_law_1691 : decode cL_law 1691 = .ok (.iconst 2, 1) := by decide +kernel
theorem dL_law_1692 : decode cL_law 1692 = .ok (.iadd, 1) := by decide +kernel
theorem dL_law_1693 : decode cL_law 1693 = .ok (.iaload, 1) := by decide +kernel
theorem dL_law_1694 : decode cL_law 1694 = .ok (.aload_n 3, 1) := by decide +kernel
theorem dL_law_1695 : decode cL_law 1695 = .ok (.invokestatic 237, 3) := by decide +kernel
theorem dL_law_1698 : decode cL_law 1698 = .ok (.istore 5, 2) := by decide +kernel
theorem dL_law_1700 : decode cL_law 1700 = .ok (.aload_n 2, 1) := by decide +kernel
theorem dL_law_1701 : decode cL_law 1701 = .ok (.aload_n 0, 1) := by decide +kernel
theorem dL_law_1702 : decode cL_law 1702 = .ok (.iload 4, 2) := by decide +kernel
theorem dL_law_1704 : decode cL_law 1704 = .ok (.iconst 1, 1) := by decide +kernel
theorem dL_law_1705 : decode cL_law 1705 = .ok (.iadd, 1) := by decide +kernel
theorem dL_law_1706 : decode cL_law 1706 = .ok (.iaload, 1) := by decide +kernel
theorem dL_law_1707 : decode cL_law 1707 = .ok (.aload_n 0, 1) := by decide +kernel
theorem dL_law_1708 : decode cL_law 1708 = .ok (.iload 4, 2) := by decide +kernel
theorem dL_law_1710 : decode cL_law 1710 = .ok (.iconst 2, 1) := by decide +kernel
theorem dL_law_1711 : decode cL_law 1711 = .ok (.iadd, 1) := by decide +kernel
theorem dL_law_1712 : decode cL_law 1712 = .ok (.iaload, 1) := by decide +kernel
theorem dL_law_1713 : decode cL_law 1713 = .ok (.invokevirtual 239, 3) := by decide +kernel
theorem dL_law_1716 : decode cL_law 1716 = .ok (.istore 6, 2) := by decide +kernel
theorem dL_law_1718 : decode cL_law 1718 = .ok (.aload_n 2, 1) := by decide +kernel
theorem dL_law_1719 : decode cL_law 1719 = .ok (.invokevirtual 164, 3) := by decide +kernel
theorem dL_law_1722 : decode cL_law 1722 = .ok (.iload 5, 2) := by decide +kernel
theorem dL_law_1724 : decode cL_law 1724 = .ok (.if_icmp .eq 5, 3) := by decide +kernel
theorem dL_law_1727 : decode cL_law 1727 = .ok (.iconst 0, 1) := by decide +kernel
theorem dL_law_1728 : decode cL_law 1728 = .ok (.ireturn, 1) := by decide +kernel
theorem dL_law_1729 : decode cL_law 1729 = .ok (.iload 5, 2) := by decide +kernel
theorem dL_law_1731 : decode cL_law 1731 = .ok (.ifCond .ne 15, 3) := by decide +kernel
theorem dL_law_1734 : decode cL_law 1734 = .ok (.aload_n 3, 1) := by decide +kernel
theorem dL_law_1735 : decode cL_law 1735 = .ok (.iconst 0, 1) := by decide +kernel
theorem dL_law_1736 : decode cL_law 1736 = .ok (.laload, 1) := by decide +kernel
theorem dL_law_1737 : decode cL_law 1737 = .ok (.iload 6, 2) := by decide +kernel
theorem dL_law_1739 : decode cL_law 1739 = .ok (.i2l, 1) := by decide +kernel
theorem dL_law_1740 : decode cL_law 1740 = .ok (.lcmp, 1) := by decide +kernel
theorem dL_law_1741 : decode cL_law 1741 = .ok (.ifCond .eq 5, 3) := by decide +kernel
theorem dL_law_1744 : decode cL_law 1744 = .ok (.iconst 0, 1) := by decide +kernel
theorem dL_law_1745 : decode cL_law 1745 = .ok (.ireturn, 1) := by decide +kernel
theorem dL_law_1746 : decode cL_law 1746 = .ok (.goto 908, 3) := by decide +kernel
theorem dL_law_1749 : decode cL_law 1749 = .ok (.aload_n 1, 1) := by decide +kernel
theorem dL_law_1750 : decode cL_law 1750 = .ok (.aload_n 0, 1) := by decide +kernel
theorem dL_law_1751 : decode cL_law 1751 = .ok (.iload 4, 2) := by decide +kernel
theorem dL_law_1753 : decode cL_law 1753 = .ok (.iconst 1, 1) := by decide +kernel
theorem dL_law_1754 : decode cL_law 1754 = .ok (.iadd, 1) := by decide +kernel
theorem dL_law_1755 : decode cL_law 1755 = .ok (.iaload, 1) := by decide +kernel
theorem dL_law_1756 : decode cL_law 1756 = .ok (.aload_n 0, 1) := by decide +kernel
theorem dL_law_1757 : decode cL_law 1757 = .ok (.iload 4, 2) := by decide +kernel
theorem dL_law_1759 : decode cL_law 1759 = .ok (.iconst 2, 1) := by decide +kernel
theorem dL_law_1760 : decode cL_law 1760 = .ok (.iadd, 1) := by decide +kernel
theorem dL_law_1761 : decode cL_law 1761 = .ok (.iaload, 1) := by decide +kernel
theorem dL_law_1762 : decode cL_law 1762 = .ok (.aload_n 3, 1) := by decide +kernel
theorem dL_law_1763 : decode cL_law 1763 = .ok (.invokestatic 240, 3) := by decide +kernel
theorem dL_law_1766 : decode cL_law 1766 = .ok (.istore 5, 2) := by decide +kernel
theorem dL_law_1768 : decode cL_law 1768 = .ok (.aload_n 2, 1) := by decide +kernel
theorem dL_law_1769 : decode cL_law 1769 = .ok (.aload_n 0, 1) := by decide +kernel
theorem dL_law_1770 : decode cL_law 1770 = .ok (.iload 4, 2) := by decide +kernel
theorem dL_law_1772 : decode cL_law 1772 = .ok (.iconst 1, 1) := by decide +kernel
theorem dL_law_1773 : decode cL_law 1773 = .ok (.iadd, 1) := by decide +kernel
theorem dL_law_1774 : decode cL_law 1774 = .ok (.iaload, 1) := by decide +kernel
theorem dL_law_1775 : decode cL_law 1775 = .ok (.aload_n 0, 1) := by decide +kernel
theorem dL_law_1776 : decode cL_law 1776 = .ok (.iload 4, 2) := by decide +kernel
theorem dL_law_1778 : decode cL_law 1778 = .ok (.iconst 2, 1) := by decide +kernel
theorem dL_law_1779 : decode cL_law 1779 = .ok (.iadd, 1) := by decide +kernel
theorem dL_law_1780 : decode cL_law 1780 = .ok (.iaload, 1) := by decide +kernel
theorem dL_law_1781 : decode cL_law 1781 = .ok (.invokevirtual 242, 3) := by decide +kernel
theorem dL_law_1784 : decode cL_law 1784 = .ok (.istore 6, 2) := by decide +kernel
theorem dL_law_1786 : decode cL_law 1786 = .ok (.aload_n 2, 1) := by decide +kernel
theorem dL_law_1787 : decode cL_law 1787 = .ok (.invokevirtual 164, 3) := by decide +kernel
theorem dL_law_1790 : decode cL_law 1790 = .ok (.iload 5, 2) := by decide +kernel
theorem dL_law_1792 : decode cL_law 1792 = .ok (.if_icmp .eq 5, 3) := by decide +kernel
theorem dL_law_1795 : decode cL_law 1795 = .ok (.iconst 0, 1) := by decide +kernel
theorem dL_law_1796 : decode cL_law 1796 = .ok (.ireturn, 1) := by decide +kernel
theorem dL_law_1797 : decode cL_law 1797 = .ok (.iload 5, 2) := by decide +kernel
theorem dL_law_1799 : decode cL_law 1799 = .ok (.ifCond .ne 15, 3) := by decide +kernel
theorem dL_law_1802 : decode cL_law 1802 = .ok (.aload_n 3, 1) := by decide +kernel
theorem dL_law_1803 : decode cL_law 1803 = .ok (.iconst 0, 1) := by decide +kernel
theorem dL_law_1804 : decode cL_law 1804 = .ok (.laload, 1) := by decide +kernel
theorem dL_law_1805 : decode cL_law 1805 = .ok (.iload 6, 2) := by decide +kernel
theorem dL_law_1807 : decode cL_law 1807 = .ok (.i2l, 1) := by decide +kernel
theorem dL_law_1808 : decode cL_law 1808 = .ok (.lcmp, 1) := by decide +kernel
theorem dL_law_1809 : decode cL_law 1809 = .ok (.ifCond .eq 5, 3) := by decide +kernel
theorem dL_law_1812 : decode cL_law 1812 = .ok (.iconst 0, 1) := by decide +kernel
theorem dL_law_1813 : decode cL_law 1813 = .ok (.ireturn, 1) := by decide +kernel
theorem dL_law_1814 : decode cL_law 1814 = .ok (.goto 840, 3) := by decide +kernel
theorem dL_law_1817 : decode cL_law 1817 = .ok (.aload_n 1, 1) := by decide +kernel
theorem dL_law_1818 : decode cL_law 1818 = .ok (.aload_n 0, 1) := by decide +kernel
theorem dL_law_1819 : decode cL_law 1819 = .ok (.iload 4, 2) := by decide +kernel
theorem dL_law_1821 : decode cL_law 1821 = .ok (.iconst 1, 1) := by decide +kernel
theorem dL_law_1822 : decode cL_law 1822 = .ok (.iadd, 1) := by decide +kernel
theorem dL_law_1823 : decode cL_law 1823 = .ok (.iaload, 1) := by decide +kernel
theorem dL_law_1824 : decode cL_law 1824 = .ok (.aload_n 0, 1) := by decide +kernel
theorem dL_law_1825 : decode cL_law 1825 = .ok (.iload 4, 2) := by decide +kernel
theorem dL_law_1827 : decode cL_law 1827 = .ok (.iconst 2, 1) := by decide +kernel
theorem dL_law_1828 : decode cL_law 1828 = .ok (.iadd, 1) := by decide +kernel
theorem dL_law_1829 : decode cL_law 1829 = .ok (.iaload, 1) := by decide +kernel
theorem dL_law_1830 : decode cL_law 1830 = .ok (.aload_n 3, 1) := by decide +kernel
theorem dL_law_1831 : decode cL_law 1831 = .ok (.invokestatic 243, 3) := by decide +kernel
theorem dL_law_1834 : decode cL_law 1834 = .ok (.istore 5, 2) := by decide +kernel
theorem dL_law_1836 : decode cL_law 1836 = .ok (.aload_n 2, 1) := by decide +kernel
theorem dL_law_1837 : decode cL_law 1837 = .ok (.aload_n 0, 1) := by decide +kernel
theorem dL_law_1838 : decode cL_law 1838 = .ok (.iload 4, 2) := by decide +kernel
theorem dL_law_1840 : decode cL_law 1840 = .ok (.iconst 1, 1) := by decide +kernel
theorem dL_law_1841 : decode cL_law 1841 = .ok (.iadd, 1) := by decide +kernel
theorem dL_law_1842 : decode cL_law 1842 = .ok (.iaload, 1) := by decide +kernel
theorem dL_law_1843 : decode cL_law 1843 = .ok (.aload_n 0, 1) := by decide +kernel
theorem dL_law_1844 : decode cL_law 1844 = .ok (.iload 4, 2) := by decide +kernel
theorem dL_law_1846 : decode cL_law 1846 = .ok (.iconst 2, 1) := by decide +kernel
theorem dL_law_1847 : decode cL_law 1847 = .ok (.iadd, 1) := by decide +kernel
theorem dL_law_1848 : decode cL_law 1848 = .ok (.iaload, 1) := by decide +kernel
theorem dL_law_1849 : decode cL_law 1849 = .ok (.invokevirtual 245, 3) := by decide +kernel
theorem dL_law_1852 : decode cL_law 1852 = .ok (.istore 6, 2) := by decide +kernel
theorem dL_law_1854 : decode cL_law 1854 = .ok (.aload_n 2, 1) := by decide +kernel
theorem dL_law_1855 : decode cL_law 1855 = .ok (.invokevirtual 164, 3) := by decide +kernel
theorem dL_law_1858 : decode cL_law 1858 = .ok (.iload 5, 2) := by decide +kernel
theorem dL_law_1860 : decode cL_law 1860 = .ok (.if_icmp .eq 5, 3) := by decide +kernel
theorem dL_law_1863 : decode cL_law 1863 = .ok (.iconst 0, 1) := by decide +kernel
theorem dL_law_1864 : decode cL_law 1864 = .ok (.ireturn, 1) := by decide +kernel
theorem dL_law_1865 : decode cL_law 1865 = .ok (.iload 5, 2) := by decide +kernel
theorem dL_law_1867 : decode cL_law 1867 = .ok (.ifCond .ne 15, 3) := by decide +kernel
theorem dL_law_1870 : decode cL_law 1870 = .ok (.aload_n 3, 1) := by decide +kernel
theorem dL_law_1871 : decode cL_law 1871 = .ok (.iconst 0, 1) := by decide +kernel
theorem dL_law_1872 : decode cL_law 1872 = .ok (.laload, 1) := by decide +kernel
theorem dL_law_1873 : decode cL_law 1873 = .ok (.iload 6, 2) := by decide +kernel
theorem dL_law_1875 : decode cL_law 1875 = .ok (.i2l, 1) := by decide +kernel
theorem dL_law_1876 : decode cL_law 1876 = .ok (.lcmp, 1) := by decide +kernel
theorem dL_law_1877 : decode cL_law 1877 = .ok (.ifCond .eq 5, 3) := by decide +kernel
theorem dL_law_1880 : decode cL_law 1880 = .ok (.iconst 0, 1) := by decide +kernel
theorem dL_law_1881 : decode cL_law 1881 = .ok (.ireturn, 1) := by decide +kernel
theorem dL_law_1882 : decode cL_law 1882 = .ok (.goto 772, 3) := by decide +kernel
theorem dL_law_1885 : decode cL_law 1885 = .ok (.aload_n 1, 1) := by decide +kernel
theorem dL_law_1886 : decode cL_law 1886 = .ok (.aload_n 0, 1) := by decide +kernel
theorem dL_law_1887 : decode cL_law 1887 = .ok (.iload 4, 2) := by decide +kernel
theorem dL_law_1889 : decode cL_law 1889 = .ok (.iconst 1, 1) := by decide +kernel
theorem dL_law_1890 : decode cL_law 1890 = .ok (.iadd, 1) := by decide +kernel
theorem dL_law_1891 : decode cL_law 1891 = .ok (.iaload, 1) := by decide +kernel
theorem dL_law_1892 : decode cL_law 1892 = .ok (.aload_n 0, 1) := by decide +kernel
theorem dL_law_1893 : decode cL_law 1893 = .ok (.iload 4, 2) := by decide +kernel
theorem dL_law_1895 : decode cL_law 1895 = .ok (.iconst 2, 1) := by decide +kernel
theorem dL_law_1896 : decode cL_law 1896 = .ok (.iadd, 1) := by decide +kernel
theorem dL_law_1897 : decode cL_law 1897 = .ok (.iaload, 1) := by decide +kernel
theorem dL_law_1898 : decode cL_law 1898 = .ok (.aload_n 0, 1) := by decide +kernel
theorem dL_law_1899 : decode cL_law 1899 = .ok (.iload 4, 2) := by decide +kernel
theorem dL_law_1901 : decode cL_law 1901 = .ok (.iconst 3, 1) := by decide +kernel
theorem dL_law_1902 : decode cL_law 1902 = .ok (.iadd, 1) := by decide +kernel
theorem dL_law_1903 : decode cL_law 1903 = .ok (.iaload, 1) := by decide +kernel
theorem dL_law_1904 : decode cL_law 1904 = .ok (.aload_n 3, 1) := by decide +kernel
theorem dL_law_1905 : decode cL_law 1905 = .ok (.invokestatic 246, 3) := by decide +kernel
theorem dL_law_1908 : decode cL_law 1908 = .ok (.istore 5, 2) := by decide +kernel
theorem dL_law_1910 : decode cL_law 1910 = .ok (.aload_n 2, 1) := by decide +kernel
theorem dL_law_1911 : decode cL_law 1911 = .ok (.aload_n 0, 1) := by decide +kernel
theorem dL_law_1912 : decode cL_law 1912 = .ok (.iload 4, 2) := by decide +kernel
theorem dL_law_1914 : decode cL_law 1914 = .ok (.iconst 1, 1) := by decide +kernel
theorem dL_law_1915 : decode cL_law 1915 = .ok (.iadd, 1) := by decide +kernel
theorem dL_law_1916 : decode cL_law 1916 = .ok (.iaload, 1) := by decide +kernel
theorem dL_law_1917 : decode cL_law 1917 = .ok (.aload_n 0, 1) := by decide +kernel
theorem dL_law_1918 : decode cL_law 1918 = .ok (.iload 4, 2) := by decide +kernel
theorem dL_law_1920 : decode cL_law 1920 = .ok (.iconst 2, 1) := by decide +kernel
theorem dL_law_1921 : decode cL_law 1921 = .ok (.iadd, 1) := by decide +kernel
theorem dL_law_1922 : decode cL_law 1922 = .ok (.iaload, 1) := by decide +kernel
theorem dL_law_1923 : decode cL_law 1923 = .ok (.aload_n 0, 1) := by decide +kernel
theorem dL_law_1924 : decode cL_law 1924 = .ok (.iload 4, 2) := by decide +kernel
theorem dL_law_1926 : decode cL_law 1926 = .ok (.iconst 3, 1) := by decide +kernel
theorem dL_law_1927 : decode cL_law 1927 = .ok (.iadd, 1) := by decide +kernel
theorem dL_law_1928 : decode cL_law 1928 = .ok (.iaload, 1) := by decide +kernel
theorem dL_law_1929 : decode cL_law 1929 = .ok (.invokevirtual 249, 3) := by decide +kernel
theorem dL_law_1932 : decode cL_law 1932 = .ok (.istore 6, 2) := by decide +kernel
theorem dL_law_1934 : decode cL_law 1934 = .ok (.aload_n 2, 1) := by decide +kernel
theorem dL_law_1935 : decode cL_law 1935 = .ok (.invokevirtual 164, 3) := by decide +kernel
theorem dL_law_1938 : decode cL_law 1938 = .ok (.iload 5, 2) := by decide +kernel
theorem dL_law_1940 : decode cL_law 1940 = .ok (.if_icmp .eq 5, 3) := by decide +kernel
theorem dL_law_1943 : decode cL_law 1943 = .ok (.iconst 0, 1) := by decide +kernel
theorem dL_law_1944 : decode cL_law 1944 = .ok (.ireturn, 1) := by decide +kernel
theorem dL_law_1945 : decode cL_law 1945 = .ok (.iload 5, 2) := by decide +kernel
theorem dL_law_1947 : decode cL_law 1947 = .ok (.ifCond .ne 15, 3) := by decide +kernel
theorem dL_law_1950 : decode cL_law 1950 = .ok (.aload_n 3, 1) := by decide +kernel
theorem dL_law_1951 : decode cL_law 1951 = .ok (.iconst 0, 1) := by decide +kernel
theorem dL_law_1952 : decode cL_law 1952 = .ok (.laload, 1) := by decide +kernel
theorem dL_law_1953 : decode cL_law 1953 = .ok (.iload 6, 2) := by decide +kernel
theorem dL_law_1955 : decode cL_law 1955 = .ok (.i2l, 1) := by decide +kernel
theorem dL_law_1956 : decode cL_law 1956 = .ok (.lcmp, 1) := by decide +kernel
theorem dL_law_1957 : decode cL_law 1957 = .ok (.ifCond .eq 5, 3) := by decide +kernel
theorem dL_law_1960 : decode cL_law 1960 = .ok (.iconst 0, 1) := by decide +kernel
theorem dL_law_1961 : decode cL_law 1961 = .ok (.ireturn, 1) := by decide +kernel
theorem dL_law_1962 : decode cL_law 1962 = .ok (.goto 692, 3) := by decide +kernel
theorem dL_law_1965 : decode cL_law 1965 = .ok (.aload_n 1, 1) := by decide +kernel
theorem dL_law_1966 : decode cL_law 1966 = .ok (.aload_n 0, 1) := by decide +kernel
theorem dL_law_1967 : decode cL_law 1967 = .ok (.iload 4, 2) := by decide +kernel
theorem dL_law_1969 : decode cL_law 1969 = .ok (.iconst 1, 1) := by decide +kernel
theorem dL_law_1970 : decode cL_law 1970 = .ok (.iadd, 1) := by decide +kernel
theorem dL_law_1971 : decode cL_law 1971 = .ok (.iaload, 1) := by decide +kernel
theorem dL_law_1972 : decode cL_law 1972 = .ok (.aload_n 3, 1) := by decide +kernel
theorem dL_law_1973 : decode cL_law 1973 = .ok (.invokestatic 250, 3) := by decide +kernel
theorem dL_law_1976 : decode cL_law 1976 = .ok (.istore 5, 2) := by decide +kernel
theorem dL_law_1978 : decode cL_law 1978 = .ok (.aload_n 2, 1) := by decide +kernel
theorem dL_law_1979 : decode cL_law 1979 = .ok (.aload_n 0, 1) := by decide +kernel
theorem dL_law_1980 : decode cL_law 1980 = .ok (.iload 4, 2) := by decide +kernel
theorem dL_law_1982 : decode cL_law 1982 = .ok (.iconst 1, 1) := by decide +kernel
theorem dL_law_1983 : decode cL_law 1983 = .ok (.iadd, 1) := by decide +kernel
theorem dL_law_1984 : decode cL_law 1984 = .ok (.iaload, 1) := by decide +kernel
theorem dL_law_1985 : decode cL_law 1985 = .ok (.invokevirtual 252, 3) := by decide +kernel
theorem dL_law_1988 : decode cL_law 1988 = .ok (.istore 6, 2) := by decide +kernel
theorem dL_law_1990 : decode cL_law 1990 = .ok (.aload_n 2, 1) := by decide +kernel
theorem dL_law_1991 : decode cL_law 1991 = .ok (.invokevirtual 164, 3) := by decide +kernel
theorem dL_law_1994 : decode cL_law 1994 = .ok (.iload 5, 2) := by decide +kernel
theorem dL_law_1996 : decode cL_law 1996 = .ok (.if_icmp .eq 5, 3) := by decide +kernel
theorem dL_law_1999 : decode cL_law 1999 = .ok (.iconst 0, 1) := by decide +kernel
theorem dL_law_2000 : decode cL_law 2000 = .ok (.ireturn, 1) := by decide +kernel
theorem dL_law_2001 : decode cL_law 2001 = .ok (.iload 5, 2) := by decide +kernel
theorem dL_law_2003 : decode cL_law 2003 = .ok (.ifCond .ne 15, 3) := by decide +kernel
theorem dL_law_2006 : decode cL_law 2006 = .ok (.aload_n 3, 1) := by decide +kernel
theorem dL_law_2007 : decode cL_law 2007 = .ok (.iconst 0, 1) := by decide +kernel
theorem dL_law_2008 : decode cL_law 2008 = .ok (.laload, 1) := by decide +kernel
theorem dL_law_2009 : decode cL_law 2009 = .ok (.iload 6, 2) := by decide +kernel
theorem dL_law_2011 : decode cL_law 2011 = .ok (.i2l, 1) := by decide +kernel
theorem dL_law_2012 : decode cL_law 2012 = .ok (.lcmp, 1) := by decide +kernel
theorem dL_law_2013 : decode cL_law 2013 = .ok (.ifCond .eq 5, 3) := by decide +kernel
theorem dL_law_2016 : decode cL_law 2016 = .ok (.iconst 0, 1) := by decide +kernel
theorem dL_law_2017 : decode cL_law 2017 = .ok (.ireturn, 1) := by decide +kernel
theorem dL_law_2018 : decode cL_law 2018 = .ok (.goto 636, 3) := by decide +kernel
theorem dL_law_2021 : decode cL_law 2021 = .ok (.aload_n 1, 1) := by decide +kernel
theorem dL_law_2022 : decode cL_law 2022 = .ok (.aload_n 0, 1) := by decide +kernel
theorem dL_law_2023 : decode cL_law 2023 = .ok (.iload 4, 2) := by decide +kernel
theorem dL_law_2025 : decode cL_law 2025 = .ok (.iconst 1, 1) := by decide +kernel
theorem dL_law_2026 : decode cL_law 2026 = .ok (.iadd, 1) := by decide +kernel
theorem dL_law_2027 : decode cL_law 2027 = .ok (.iaload, 1) := by decide +kernel
theorem dL_law_2028 : decode cL_law 2028 = .ok (.aload_n 3, 1) := by decide +kernel
theorem dL_law_2029 : decode cL_law 2029 = .ok (.invokestatic 253, 3) := by decide +kernel
theorem dL_law_2032 : decode cL_law 2032 = .ok (.istore 5, 2) := by decide +kernel
theorem dL_law_2034 : decode cL_law 2034 = .ok (.aload_n 2, 1) := by decide +kernel
theorem dL_law_2035 : decode cL_law 2035 = .ok (.aload_n 0, 1) := by decide +kernel
theorem dL_law_2036 : decode cL_law 2036 = .ok (.iload 4, 2) := by decide +kernel
theorem dL_law_2038 : decode cL_law 2038 = .ok (.iconst 1, 1) := by decide +kernel
theorem dL_law_2039 : decode cL_law 2039 = .ok (.iadd, 1) := by decide +kernel
theorem dL_law_2040 : decode cL_law 2040 = .ok (.iaload, 1) := by decide +kernel
theorem dL_law_2041 : decode cL_law 2041 = .ok (.invokevirtual 255, 3) := by decide +kernel
theorem dL_law_2044 : decode cL_law 2044 = .ok (.istore 6, 2) := by decide +kernel
theorem dL_law_2046 : decode cL_law 2046 = .ok (.aload_n 2, 1) := by decide +kernel
theorem dL_law_2047 : decode cL_law 2047 = .ok (.invokevirtual 164, 3) := by decide +kernel
theorem dL_law_2050 : decode cL_law 2050 = .ok (.iload 5, 2) := by decide +kernel
theorem dL_law_2052 : decode cL_law 2052 = .ok (.if_icmp .eq 5, 3) := by decide +kernel
theorem dL_law_2055 : decode cL_law 2055 = .ok (.iconst 0, 1) := by decide +kernel
theorem dL_law_2056 : decode cL_law 2056 = .ok (.ireturn, 1) := by decide +kernel
theorem dL_law_2057 : decode cL_law 2057 = .ok (.iload 5, 2) := by decide +kernel
theorem dL_law_2059 : decode cL_law 2059 = .ok (.ifCond .ne 15, 3) := by decide +kernel
theorem dL_law_2062 : decode cL_law 2062 = .ok (.aload_n 3, 1) := by decide +kernel
theorem dL_law_2063 : decode cL_law 2063 = .ok (.iconst 0, 1) := by decide +kernel
theorem dL_law_2064 : decode cL_law 2064 = .ok (.laload, 1) := by decide +kernel
theorem dL_law_2065 : decode cL_law 2065 = .ok (.iload 6, 2) := by decide +kernel
theorem dL_law_2067 : decode cL_law 2067 = .ok (.i2l, 1) := by decide +kernel
theorem dL_law_2068 : decode cL_law 2068 = .ok (.lcmp, 1) := by decide +kernel
theorem dL_law_2069 : decode cL_law 2069 = .ok (.ifCond .eq 5, 3) := by decide +kernel
theorem dL_law_2072 : decode cL_law 2072 = .ok (.iconst 0, 1) := by decide +kernel
theorem dL_law_2073 : decode cL_law 2073 = .ok (.ireturn, 1) := by decide +kernel
theorem dL_law_2074 : decode cL_law 2074 = .ok (.goto 580, 3) := by decide +kernel
theorem dL_law_2077 : decode cL_law 2077 = .ok (.aload_n 1, 1) := by decide +kernel
theorem dL_law_2078 : decode cL_law 2078 = .ok (.invokevirtual 256, 3) := by decide +kernel
theorem dL_law_2081 : decode cL_law 2081 = .ok (.aload_n 2, 1) := by decide +kernel
theorem dL_law_2082 : decode cL_law 2082 = .ok (.invokevirtual 259, 3) := by decide +kernel
theorem dL_law_2085 : decode cL_law 2085 = .ok (.if_icmp .eq 569, 3) := by decide +kernel
theorem dL_law_2088 : decode cL_law 2088 = .ok (.iconst 0, 1) := by decide +kernel
theorem dL_law_2089 : decode cL_law 2089 = .ok (.ireturn, 1) := by decide +kernel
theorem dL_law_2090 : decode cL_law 2090 = .ok (.aload_n 1, 1) := by decide +kernel
theorem dL_law_2091 : decode cL_law 2091 = .ok (.invokevirtual 260, 3) := by decide +kernel
theorem dL_law_2094 : decode cL_law 2094 = .ok (.dstore 5, 2) := by decide +kernel
theorem dL_law_2096 : decode cL_law 2096 = .ok (.aload_n 2, 1) := by decide +kernel
theorem dL_law_2097 : decode cL_law 2097 = .ok (.invokevirtual 264, 3) := by decide +kernel
theorem dL_law_2100 : decode cL_law 2100 = .ok (.dstore 7, 2) := by decide +kernel
theorem dL_law_2102 : decode cL_law 2102 = .ok (.dload 5, 2) := by decide +kernel
theorem dL_law_2104 : decode cL_law 2104 = .ok (.dload 7, 2) := by decide +kernel
theorem dL_law_2106 : decode cL_law 2106 = .ok (.dcmp .l, 1) := by decide +kernel
theorem dL_law_2107 : decode cL_law 2107 = .ok (.ifCond .eq 21, 3) := by decide +kernel
theorem dL_law_2110 : decode cL_law 2110 = .ok (.dload 5, 2) := by decide +kernel
theorem dL_law_2112 : decode cL_law 2112 = .ok (.dload 5, 2) := by decide +kernel
theorem dL_law_2114 : decode cL_law 2114 = .ok (.dcmp .l, 1) := by decide +kernel
theorem dL_law_2115 : decode cL_law 2115 = .ok (.ifCond .eq 11, 3) := by decide +kernel
theorem dL_law_2118 : decode cL_law 2118 = .ok (.dload 7, 2) := by decide +kernel
theorem dL_law_2120 : decode cL_law 2120 = .ok (.dload 7, 2) := by decide +kernel
theorem dL_law_2122 : decode cL_law 2122 = .ok (.dcmp .l, 1) := by decide +kernel
theorem dL_law_2123 : decode cL_law 2123 = .ok (.ifCond .ne 5, 3) := by decide +kernel
theorem dL_law_2126 : decode cL_law 2126 = .ok (.iconst 0, 1) := by decide +kernel
theorem dL_law_2127 : decode cL_law 2127 = .ok (.ireturn, 1) := by decide +kernel
theorem dL_law_2128 : decode cL_law 2128 = .ok (.goto 526, 3) := by decide +kernel
theorem dL_law_2131 : decode cL_law 2131 = .ok (.aload_n 1, 1) := by decide +kernel
theorem dL_law_2132 : decode cL_law 2132 = .ok (.invokevirtual 265, 3) := by decide +kernel
theorem dL_law_2135 : decode cL_law 2135 = .ok (.f2d, 1) := by decide +kernel
theorem dL_law_2136 : decode cL_law 2136 = .ok (.dstore 5, 2) := by decide +kernel
theorem dL_law_2138 : decode cL_law 2138 = .ok (.aload_n 2, 1) := by decide +kernel
theorem dL_law_2139 : decode cL_law 2139 = .ok (.invokevirtual 269, 3) := by decide +kernel
theorem dL_law_2142 : decode cL_law 2142 = .ok (.f2d, 1) := by decide +kernel
theorem dL_law_2143 : decode cL_law 2143 = .ok (.dstore 7, 2) := by decide +kernel
theorem dL_law_2145 : decode cL_law 2145 = .ok (.dload 5, 2) := by decide +kernel
theorem dL_law_2147 : decode cL_law 2147 = .ok (.dload 7, 2) := by decide +kernel
theorem dL_law_2149 : decode cL_law 2149 = .ok (.dcmp .l, 1) := by decide +kernel
theorem dL_law_2150 : decode cL_law 2150 = .ok (.ifCond .eq 21, 3) := by decide +kernel
theorem dL_law_2153 : decode cL_law 2153 = .ok (.dload 5, 2) := by decide +kernel
theorem dL_law_2155 : decode cL_law 2155 = .ok (.dload 5, 2) := by decide +kernel
theorem dL_law_2157 : decode cL_law 2157 = .ok (.dcmp .l, 1) := by decide +kernel
theorem dL_law_2158 : decode cL_law 2158 = .ok (.ifCond .eq 11, 3) := by decide +kernel
theorem dL_law_2161 : decode cL_law 2161 = .ok (.dload 7, 2) := by decide +kernel
theorem dL_law_2163 : decode cL_law 2163 = .ok (.dload 7, 2) := by decide +kernel
theorem dL_law_2165 : decode cL_law 2165 = .ok (.dcmp .l, 1) := by decide +kernel
theorem dL_law_2166 : decode cL_law 2166 = .ok (.ifCond .ne 5, 3) := by decide +kernel
theorem dL_law_2169 : decode cL_law 2169 = .ok (.iconst 0, 1) := by decide +kernel
theorem dL_law_2170 : decode cL_law 2170 = .ok (.ireturn, 1) := by decide +kernel
theorem dL_law_2171 : decode cL_law 2171 = .ok (.goto 483, 3) := by decide +kernel
theorem dL_law_2174 : decode cL_law 2174 = .ok (.aload_n 1, 1) := by decide +kernel
theorem dL_law_2175 : decode cL_law 2175 = .ok (.invokevirtual 270, 3) := by decide +kernel
theorem dL_law_2178 : decode cL_law 2178 = .ok (.aload_n 2, 1) := by decide +kernel
theorem dL_law_2179 : decode cL_law 2179 = .ok (.invokevirtual 274, 3) := by decide +kernel
theorem dL_law_2182 : decode cL_law 2182 = .ok (.if_icmp .eq 472, 3) := by decide +kernel
theorem dL_law_2185 : decode cL_law 2185 = .ok (.iconst 0, 1) := by decide +kernel
theorem dL_law_2186 : decode cL_law 2186 = .ok (.ireturn, 1) := by decide +kernel
theorem dL_law_2187 : decode cL_law 2187 = .ok (.aload_n 1, 1) := by decide +kernel
theorem dL_law_2188 : decode cL_law 2188 = .ok (.aload_n 0, 1) := by decide +kernel
theorem dL_law_2189 : decode cL_law 2189 = .ok (.iload 4, 2) := by decide +kernel
theorem dL_law_2191 : decode cL_law 2191 = .ok (.iconst 1, 1) := by decide +kernel
theorem dL_law_2192 : decode cL_law 2192 = .ok (.iadd, 1) := by decide +kernel
theorem dL_law_2193 : decode cL_law 2193 = .ok (.iaload, 1) := by decide +kernel
theorem dL_law_2194 : decode cL_law 2194 = .ok (.aload_n 0, 1) := by decide +kernel
theorem dL_law_2195 : decode cL_law 2195 = .ok (.iload 4, 2) := by decide +kernel
theorem dL_law_2197 : decode cL_law 2197 = .ok (.iconst 2, 1) := by decide +kernel
theorem dL_law_2198 : decode cL_law 2198 = .ok (.iadd, 1) := by decide +kernel
theorem dL_law_2199 : decode cL_law 2199 = .ok (.iaload, 1) := by decide +kernel
theorem dL_law_2200 : decode cL_law 2200 = .ok (.aload_n 0, 1) := by decide +kernel
theorem dL_law_2201 : decode cL_law 2201 = .ok (.iload 4, 2) := by decide +kernel
theorem dL_law_2203 : decode cL_law 2203 = .ok (.iconst 3, 1) := by decide +kernel
theorem dL_law_2204 : decode cL_law 2204 = .ok (.iadd, 1) := by decide +kernel
theorem dL_law_2205 : decode cL_law 2205 = .ok (.iaload, 1) := by decide +kernel
theorem dL_law_2206 : decode cL_law 2206 = .ok (.aload_n 3, 1) := by decide +kernel
theorem dL_law_2207 : decode cL_law 2207 = .ok (.invokestatic 275, 3) := by decide +kernel
theorem dL_law_2210 : decode cL_law 2210 = .ok (.istore 5, 2) := by decide +kernel
theorem dL_law_2212 : decode cL_law 2212 = .ok (.aload_n 2, 1) := by decide +kernel
theorem dL_law_2213 : decode cL_law 2213 = .ok (.aload_n 0, 1) := by decide +kernel
theorem dL_law_2214 : decode cL_law 2214 = .ok (.iload 4, 2) := by decide +kernel
theorem dL_law_2216 : decode cL_law 2216 = .ok (.iconst 1, 1) := by decide +kernel
theorem dL_law_2217 : decode cL_law 2217 = .ok (.iadd, 1) := by decide +kernel
theorem dL_law_2218 : decode cL_law 2218 = .ok (.iaload, 1) := by decide +kernel
theorem dL_law_2219 : decode cL_law 2219 = .ok (.aload_n 0, 1) := by decide +kernel
theorem dL_law_2220 : decode cL_law 2220 = .ok (.iload 4, 2) := by decide +kernel
theorem dL_law_2222 : decode cL_law 2222 = .ok (.iconst 2, 1) := by decide +kernel
theorem dL_law_2223 : decode cL_law 2223 = .ok (.iadd, 1) := by decide +kernel
theorem dL_law_2224 : decode cL_law 2224 = .ok (.iaload, 1) := by decide +kernel
theorem dL_law_2225 : decode cL_law 2225 = .ok (.aload_n 0, 1) := by decide +kernel
theorem dL_law_2226 : decode cL_law 2226 = .ok (.iload 4, 2) := by decide +kernel
theorem dL_law_2228 : decode cL_law 2228 = .ok (.iconst 3, 1) := by decide +kernel
theorem dL_law_2229 : decode cL_law 2229 = .ok (.iadd, 1) := by decide +kernel
theorem dL_law_2230 : decode cL_law 2230 = .ok (.iaload, 1) := by decide +kernel
theorem dL_law_2231 : decode cL_law 2231 = .ok (.invokevirtual 277, 3) := by decide +kernel
theorem dL_law_2234 : decode cL_law 2234 = .ok (.istore 6, 2) := by decide +kernel
theorem dL_law_2236 : decode cL_law 2236 = .ok (.aload_n 2, 1) := by decide +kernel
theorem dL_law_2237 : decode cL_law 2237 = .ok (.invokevirtual 164, 3) := by decide +kernel
theorem dL_law_2240 : decode cL_law 2240 = .ok (.iload 5, 2) := by decide +kernel
theorem dL_law_2242 : decode cL_law 2242 = .ok (.if_icmp .eq 5, 3) := by decide +kernel
theorem dL_law_2245 : decode cL_law 2245 = .ok (.iconst 0, 1) := by decide +kernel
theorem dL_law_2246 : decode cL_law 2246 = .ok (.ireturn, 1) := by decide +kernel
theorem dL_law_2247 : decode cL_law 2247 = .ok (.iload 5, 2) := by decide +kernel
theorem dL_law_2249 : decode cL_law 2249 = .ok (.ifCond .ne 15, 3) := by decide +kernel
theorem dL_law_2252 : decode cL_law 2252 = .ok (.aload_n 3, 1) := by decide +kernel
theorem dL_law_2253 : decode cL_law 2253 = .ok (.iconst 0, 1) := by decide +kernel
theorem dL_law_2254 : decode cL_law 2254 = .ok (.laload, 1) := by decide +kernel
theorem dL_law_2255 : decode cL_law 2255 = .ok (.iload 6, 2) := by decide +kernel
theorem dL_law_2257 : decode cL_law 2257 = .ok (.i2l, 1) := by decide +kernel
theorem dL_law_2258 : decode cL_law 2258 = .ok (.lcmp, 1) := by decide +kernel
theorem dL_law_2259 : decode cL_law 2259 = .ok (.ifCond .eq 5, 3) := by decide +kernel
theorem dL_law_2262 : decode cL_law 2262 = .ok (.iconst 0, 1) := by decide +kernel
theorem dL_law_2263 : decode cL_law 2263 = .ok (.ireturn, 1) := by decide +kernel
theorem dL_law_2264 : decode cL_law 2264 = .ok (.goto 390, 3) := by decide +kernel
theorem dL_law_2267 : decode cL_law 2267 = .ok (.aload_n 1, 1) := by decide +kernel
theorem dL_law_2268 : decode cL_law 2268 = .ok (.aload_n 0, 1) := by decide +kernel
theorem dL_law_2269 : decode cL_law 2269 = .ok (.iload 4, 2) := by decide +kernel
theorem dL_law_2271 : decode cL_law 2271 = .ok (.iconst 1, 1) := by decide +kernel
theorem dL_law_2272 : decode cL_law 2272 = .ok (.iadd, 1) := by decide +kernel
theorem dL_law_2273 : decode cL_law 2273 = .ok (.iaload, 1) := by decide +kernel
theorem dL_law_2274 : decode cL_law 2274 = .ok (.aload_n 0, 1) := by decide +kernel
theorem dL_law_2275 : decode cL_law 2275 = .ok (.iload 4, 2) := by decide +kernel
theorem dL_law_2277 : decode cL_law 2277 = .ok (.iconst 2, 1) := by decide +kernel
theorem dL_law_2278 : decode cL_law 2278 = .ok (.iadd, 1) := by decide +kernel
theorem dL_law_2279 : decode cL_law 2279 = .ok (.iaload, 1) := by decide +kernel
theorem dL_law_2280 : decode cL_law 2280 = .ok (.aload_n 3, 1) := by decide +kernel
theorem dL_law_2281 : decode cL_law 2281 = .ok (.invokestatic 278, 3) := by decide +kernel
theorem dL_law_2284 : decode cL_law 2284 = .ok (.istore 5, 2) := by decide +kernel
theorem dL_law_2286 : decode cL_law 2286 = .ok (.aload_n 2, 1) := by decide +kernel
theorem dL_law_2287 : decode cL_law 2287 = .ok (.aload_n 0, 1) := by decide +kernel
theorem dL_law_2288 : decode cL_law 2288 = .ok (.iload 4, 2) := by decide +kernel
theorem dL_law_2290 : decode cL_law 2290 = .ok (.iconst 1, 1) := by decide +kernel
theorem dL_law_2291 : decode cL_law 2291 = .ok (.iadd, 1) := by decide +kernel
theorem dL_law_2292 : decode cL_law 2292 = .ok (.iaload, 1) := by decide +kernel
theorem dL_law_2293 : decode cL_law 2293 = .ok (.aload_n 0, 1) := by decide +kernel
theorem dL_law_2294 : decode cL_law 2294 = .ok (.iload 4, 2) := by decide +kernel
theorem dL_law_2296 : decode cL_law 2296 = .ok (.iconst 2, 1) := by decide +kernel
theorem dL_law_2297 : decode cL_law 2297 = .ok (.iadd, 1) := by decide +kernel
theorem dL_law_2298 : decode cL_law 2298 = .ok (.iaload, 1) := by decide +kernel
theorem dL_law_2299 : decode cL_law 2299 = .ok (.invokevirtual 280, 3) := by decide +kernel
theorem dL_law_2302 : decode cL_law 2302 = .ok (.istore 6, 2) := by decide +kernel
theorem dL_law_2304 : decode cL_law 2304 = .ok (.aload_n 2, 1) := by decide +kernel
theorem dL_law_2305 : decode cL_law 2305 = .ok (.invokevirtual 164, 3) := by decide +kernel
theorem dL_law_2308 : decode cL_law 2308 = .ok (.iload 5, 2) := by decide +kernel
theorem dL_law_2310 : decode cL_law 2310 = .ok (.if_icmp .eq 5, 3) := by decide +kernel
theorem dL_law_2313 : decode cL_law 2313 = .ok (.iconst 0, 1) := by decide +kernel
theorem dL_law_2314 : decode cL_law 2314 = .ok (.ireturn, 1) := by decide +kernel
theorem dL_law_2315 : decode cL_law 2315 = .ok (.iload 5, 2) := by decide +kernel
theorem dL_law_2317 : decode cL_law 2317 = .ok (.ifCond .ne 15, 3) := by decide +kernel
theorem dL_law_2320 : decode cL_law 2320 = .ok (.aload_n 3, 1) := by decide +kernel
theorem dL_law_2321 : decode cL_law 2321 = .ok (.iconst 0, 1) := by decide +kernel
theorem dL_law_2322 : decode cL_law 2322 = .ok (.laload, 1) := by decide +kernel
theorem dL_law_2323 : decode cL_law 2323 = .ok (.iload 6, 2) := by decide +kernel
theorem dL_law_2325 : decode cL_law 2325 = .ok (.i2l, 1) := by decide +kernel
theorem dL_law_2326 : decode cL_law 2326 = .ok (.lcmp, 1) := by decide +kernel
theorem dL_law_2327 : decode cL_law 2327 = .ok (.ifCond .eq 5, 3) := by decide +kernel
theorem dL_law_2330 : decode cL_law 2330 = .ok (.iconst 0, 1) := by decide +kernel
theorem dL_law_2331 : decode cL_law 2331 = .ok (.ireturn, 1) := by decide +kernel
theorem dL_law_2332 : decode cL_law 2332 = .ok (.goto 322, 3) := by decide +kernel
theorem dL_law_2335 : decode cL_law 2335 = .ok (.aload_n 1, 1) := by decide +kernel
theorem dL_law_2336 : decode cL_law 2336 = .ok (.aload_n 0, 1) := by decide +kernel
theorem dL_law_2337 : decode cL_law 2337 = .ok (.iload 4, 2) := by decide +kernel
theorem dL_law_2339 : decode cL_law 2339 = .ok (.iconst 1, 1) := by decide +kernel
theorem dL_law_2340 : decode cL_law 2340 = .ok (.iadd, 1) := by decide +kernel
theorem dL_law_2341 : decode cL_law 2341 = .ok (.iaload, 1) := by decide +kernel
theorem dL_law_2342 : decode cL_law 2342 = .ok (.aload_n 0, 1) := by decide +kernel
theorem dL_law_2343 : decode cL_law 2343 = .ok (.iload 4, 2) := by decide +kernel
theorem dL_law_2345 : decode cL_law 2345 = .ok (.iconst 2, 1) := by decide +kernel
theorem dL_law_2346 : decode cL_law 2346 = .ok (.iadd, 1) := by decide +kernel
theorem dL_law_2347 : decode cL_law 2347 = .ok (.iaload, 1) := by decide +kernel
theorem dL_law_2348 : decode cL_law 2348 = .ok (.aload_n 3, 1) := by decide +kernel
theorem dL_law_2349 : decode cL_law 2349 = .ok (.invokestatic 281, 3) := by decide +kernel
theorem dL_law_2352 : decode cL_law 2352 = .ok (.istore 5, 2) := by decide +kernel
theorem dL_law_2354 : decode cL_law 2354 = .ok (.aload_n 2, 1) := by decide +kernel
theorem dL_law_2355 : decode cL_law 2355 = .ok (.aload_n 0, 1) := by decide +kernel
theorem dL_law_2356 : decode cL_law 2356 = .ok (.iload 4, 2) := by decide +kernel
theorem dL_law_2358 : decode cL_law 2358 = .ok (.iconst 1, 1) := by decide +kernel
theorem dL_law_2359 : decode cL_law 2359 = .ok (.iadd, 1) := by decide +kernel
theorem dL_law_2360 : decode cL_law 2360 = .ok (.iaload, 1) := by decide +kernel
theorem dL_law_2361 : decode cL_law 2361 = .ok (.aload_n 0, 1) := by decide +kernel
theorem dL_law_2362 : decode cL_law 2362 = .ok (.iload 4, 2) := by decide +kernel
theorem dL_law_2364 : decode cL_law 2364 = .ok (.iconst 2, 1) := by decide +kernel
theorem dL_law_2365 : decode cL_law 2365 = .ok (.iadd, 1) := by decide +kernel
theorem dL_law_2366 : decode cL_law 2366 = .ok (.iaload, 1) := by decide +kernel
theorem dL_law_2367 : decode cL_law 2367 = .ok (.invokevirtual 283, 3) := by decide +kernel
theorem dL_law_2370 : decode cL_law 2370 = .ok (.istore 6, 2) := by decide +kernel
theorem dL_law_2372 : decode cL_law 2372 = .ok (.aload_n 2, 1) := by decide +kernel
theorem dL_law_2373 : decode cL_law 2373 = .ok (.invokevirtual 164, 3) := by decide +kernel
theorem dL_law_2376 : decode cL_law 2376 = .ok (.iload 5, 2) := by decide +kernel
theorem dL_law_2378 : decode cL_law 2378 = .ok (.if_icmp .eq 5, 3) := by decide +kernel
theorem dL_law_2381 : decode cL_law 2381 = .ok (.iconst 0, 1) := by decide +kernel
theorem dL_law_2382 : decode cL_law 2382 = .ok (.ireturn, 1) := by decide +kernel
theorem dL_law_2383 : decode cL_law 2383 = .ok (.iload 5, 2) := by decide +kernel
theorem dL_law_2385 : decode cL_law 2385 = .ok (.ifCond .ne 15, 3) := by decide +kernel
theorem dL_law_2388 : decode cL_law 2388 = .ok (.aload_n 3, 1) := by decide +kernel
theorem dL_law_2389 : decode cL_law 2389 = .ok (.iconst 0, 1) := by decide +kernel
theorem dL_law_2390 : decode cL_law 2390 = .ok (.laload, 1) := by decide +kernel
theorem dL_law_2391 : decode cL_law 2391 = .ok (.iload 6, 2) := by decide +kernel
theorem dL_law_2393 : decode cL_law 2393 = .ok (.i2l, 1) := by decide +kernel
theorem dL_law_2394 : decode cL_law 2394 = .ok (.lcmp, 1) := by decide +kernel
theorem dL_law_2395 : decode cL_law 2395 = .ok (.ifCond .eq 5, 3) := by decide +kernel
theorem dL_law_2398 : decode cL_law 2398 = .ok (.iconst 0, 1) := by decide +kernel
theorem dL_law_2399 : decode cL_law 2399 = .ok (.ireturn, 1) := by decide +kernel
theorem dL_law_2400 : decode cL_law 2400 = .ok (.goto 254, 3) := by decide +kernel
theorem dL_law_2403 : decode cL_law 2403 = .ok (.aload_n 1, 1) := by decide +kernel
theorem dL_law_2404 : decode cL_law 2404 = .ok (.aload_n 0, 1) := by decide +kernel
theorem dL_law_2405 : decode cL_law 2405 = .ok (.iload 4, 2) := by decide +kernel
theorem dL_law_2407 : decode cL_law 2407 = .ok (.iconst 1, 1) := by decide +kernel
theorem dL_law_2408 : decode cL_law 2408 = .ok (.iadd, 1) := by decide +kernel
theorem dL_law_2409 : decode cL_law 2409 = .ok (.iaload, 1) := by decide +kernel
theorem dL_law_2410 : decode cL_law 2410 = .ok (.aload_n 3, 1) := by decide +kernel
theorem dL_law_2411 : decode cL_law 2411 = .ok (.invokestatic 284, 3) := by decide +kernel
theorem dL_law_2414 : decode cL_law 2414 = .ok (.istore 5, 2) := by decide +kernel
theorem dL_law_2416 : decode cL_law 2416 = .ok (.aload_n 2, 1) := by decide +kernel
theorem dL_law_2417 : decode cL_law 2417 = .ok (.aload_n 0, 1) := by decide +kernel
theorem dL_law_2418 : decode cL_law 2418 = .ok (.iload 4, 2) := by decide +kernel
theorem dL_law_2420 : decode cL_law 2420 = .ok (.iconst 1, 1) := by decide +kernel
theorem dL_law_2421 : decode cL_law 2421 = .ok (.iadd, 1) := by decide +kernel
theorem dL_law_2422 : decode cL_law 2422 = .ok (.iaload, 1) := by decide +kernel
theorem dL_law_2423 : decode cL_law 2423 = .ok (.invokevirtual 286, 3) := by decide +kernel
theorem dL_law_2426 : decode cL_law 2426 = .ok (.istore 6, 2) := by decide +kernel
theorem dL_law_2428 : decode cL_law 2428 = .ok (.aload_n 2, 1) := by decide +kernel
theorem dL_law_2429 : decode cL_law 2429 = .ok (.invokevirtual 164, 3) := by decide +kernel
theorem dL_law_2432 : decode cL_law 2432 = .ok (.iload 5, 2) := by decide +kernel
theorem dL_law_2434 : decode cL_law 2434 = .ok (.if_icmp .eq 5, 3) := by decide +kernel
theorem dL_law_2437 : decode cL_law 2437 = .ok (.iconst 0, 1) := by decide +kernel
theorem dL_law_2438 : decode cL_law 2438 = .ok (.ireturn, 1) := by decide +kernel
theorem dL_law_2439 : decode cL_law 2439 = .ok (.iload 5, 2) := by decide +kernel
theorem dL_law_2441 : decode cL_law 2441 = .ok (.ifCond .ne 15, 3) := by decide +kernel
theorem dL_law_2444 : decode cL_law 2444 = .ok (.aload_n 3, 1) := by decide +kernel
theorem dL_law_2445 : decode cL_law 2445 = .ok (.iconst 0, 1) := by decide +kernel
theorem dL_law_2446 : decode cL_law 2446 = .ok (.laload, 1) := by decide +kernel
theorem dL_law_2447 : decode cL_law 2447 = .ok (.iload 6, 2) := by decide +kernel
theorem dL_law_2449 : decode cL_law 2449 = .ok (.i2l, 1) := by decide +kernel
theorem dL_law_2450 : decode cL_law 2450 = .ok (.lcmp, 1) := by decide +kernel
theorem dL_law_2451 : decode cL_law 2451 = .ok (.ifCond .eq 5, 3) := by decide +kernel
theorem dL_law_2454 : decode cL_law 2454 = .ok (.iconst 0, 1) := by decide +kernel
theorem dL_law_2455 : decode cL_law 2455 = .ok (.ireturn, 1) := by decide +kernel
theorem dL_law_2456 : decode cL_law 2456 = .ok (.goto 198, 3) := by decide +kernel
theorem dL_law_2459 : decode cL_law 2459 = .ok (.aload_n 1, 1) := by decide +kernel
theorem dL_law_2460 : decode cL_law 2460 = .ok (.invokevirtual 287, 3) := by decide +kernel
theorem dL_law_2463 : decode cL_law 2463 = .ok (.aload_n 2, 1) := by decide +kernel
theorem dL_law_2464 : decode cL_law 2464 = .ok (.invokevirtual 290, 3) := by decide +kernel
theorem dL_law_2467 : decode cL_law 2467 = .ok (.if_icmp .eq 187, 3) := by decide +kernel
theorem dL_law_2470 : decode cL_law 2470 = .ok (.iconst 0, 1) := by decide +kernel
theorem dL_law_2471 : decode cL_law 2471 = .ok (.ireturn, 1) := by decide +kernel
theorem dL_law_2472 : decode cL_law 2472 = .ok (.aload_n 1, 1) := by decide +kernel
theorem dL_law_2473 : decode cL_law 2473 = .ok (.aload_n 3, 1) := by decide +kernel
theorem dL_law_2474 : decode cL_law 2474 = .ok (.invokestatic 291, 3) := by decide +kernel
theorem dL_law_2477 : decode cL_law 2477 = .ok (.istore 5, 2) := by decide +kernel
theorem dL_law_2479 : decode cL_law 2479 = .ok (.aload_n 2, 1) := by decide +kernel
theorem dL_law_2480 : decode cL_law 2480 = .ok (.invokevirtual 294, 3) := by decide +kernel
theorem dL_law_2483 : decode cL_law 2483 = .ok (.istore 6, 2) := by decide +kernel
theorem dL_law_2485 : decode cL_law 2485 = .ok (.aload_n 2, 1) := by decide +kernel
theorem dL_law_2486 : decode cL_law 2486 = .ok (.invokevirtual 164, 3) := by decide +kernel
theorem dL_law_2489 : decode cL_law 2489 = .ok (.iload 5, 2) := by decide +kernel
theorem dL_law_2491 : decode cL_law 2491 = .ok (.if_icmp .eq 5, 3) := by decide +kernel
theorem dL_law_2494 : decode cL_law 2494 = .ok (.iconst 0, 1) := by decide +kernel
theorem dL_law_2495 : decode cL_law 2495 = .ok (.ireturn, 1) := by decide +kernel
theorem dL_law_2496 : decode cL_law 2496 = .ok (.iload 5, 2) := by decide +kernel
theorem dL_law_2498 : decode cL_law 2498 = .ok (.ifCond .ne 15, 3) := by decide +kernel
theorem dL_law_2501 : decode cL_law 2501 = .ok (.aload_n 3, 1) := by decide +kernel
theorem dL_law_2502 : decode cL_law 2502 = .ok (.iconst 0, 1) := by decide +kernel
theorem dL_law_2503 : decode cL_law 2503 = .ok (.laload, 1) := by decide +kernel
theorem dL_law_2504 : decode cL_law 2504 = .ok (.iload 6, 2) := by decide +kernel
theorem dL_law_2506 : decode cL_law 2506 = .ok (.i2l, 1) := by decide +kernel
theorem dL_law_2507 : decode cL_law 2507 = .ok (.lcmp, 1) := by decide +kernel
theorem dL_law_2508 : decode cL_law 2508 = .ok (.ifCond .eq 5, 3) := by decide +kernel
theorem dL_law_2511 : decode cL_law 2511 = .ok (.iconst 0, 1) := by decide +kernel
theorem dL_law_2512 : decode cL_law 2512 = .ok (.ireturn, 1) := by decide +kernel
theorem dL_law_2513 : decode cL_law 2513 = .ok (.goto 141, 3) := by decide +kernel
theorem dL_law_2516 : decode cL_law 2516 = .ok (.aload_n 1, 1) := by decide +kernel
theorem dL_law_2517 : decode cL_law 2517 = .ok (.aload_n 0, 1) := by decide +kernel
theorem dL_law_2518 : decode cL_law 2518 = .ok (.iload 4, 2) := by decide +kernel
theorem dL_law_2520 : decode cL_law 2520 = .ok (.iconst 1, 1) := by decide +kernel
theorem dL_law_2521 : decode cL_law 2521 = .ok (.iadd, 1) := by decide +kernel
theorem dL_law_2522 : decode cL_law 2522 = .ok (.iaload, 1) := by decide +kernel
theorem dL_law_2523 : decode cL_law 2523 = .ok (.aload_n 3, 1) := by decide +kernel
theorem dL_law_2524 : decode cL_law 2524 = .ok (.invokestatic 295, 3) := by decide +kernel
theorem dL_law_2527 : decode cL_law 2527 = .ok (.istore 5, 2) := by decide +kernel
theorem dL_law_2529 : decode cL_law 2529 = .ok (.aload_n 2, 1) := by decide +kernel
theorem dL_law_2530 : decode cL_law 2530 = .ok (.aload_n 0, 1) := by decide +kernel
theorem dL_law_2531 : decode cL_law 2531 = .ok (.iload 4, 2) := by decide +kernel
theorem dL_law_2533 : decode cL_law 2533 = .ok (.iconst 1, 1) := by decide +kernel
theorem dL_law_2534 : decode cL_law 2534 = .ok (.iadd, 1) := by decide +kernel
theorem dL_law_2535 : decode cL_law 2535 = .ok (.iaload, 1) := by decide +kernel
theorem dL_law_2536 : decode cL_law 2536 = .ok (.invokevirtual 297, 3) := by decide +kernel
theorem dL_law_2539 : decode cL_law 2539 = .ok (.istore 6, 2) := by decide +kernel
theorem dL_law_2541 : decode cL_law 2541 = .ok (.aload_n 2, 1) := by decide +kernel
theorem dL_law_2542 : decode cL_law 2542 = .ok (.invokevirtual 164, 3) := by decide +kernel
theorem dL_law_2545 : decode cL_law 2545 = .ok (.iload 5, 2) := by decide +kernel
theorem dL_law_2547 : decode cL_law 2547 = .ok (.if_icmp .eq 5, 3) := by decide +kernel
theorem dL_law_2550 : decode cL_law 2550 = .ok (.iconst 0, 1) := by decide +kernel
theorem dL_law_2551 : decode cL_law 2551 = .ok (.ireturn, 1) := by decide +kernel
theorem dL_law_2552 : decode cL_law 2552 = .ok (.iload 5, 2) := by decide +kernel
theorem dL_law_2554 : decode cL_law 2554 = .ok (.ifCond .ne 15, 3) := by decide +kernel
theorem dL_law_2557 : decode cL_law 2557 = .ok (.aload_n 3, 1) := by decide +kernel
theorem dL_law_2558 : decode cL_law 2558 = .ok (.iconst 0, 1) := by decide +kernel
theorem dL_law_2559 : decode cL_law 2559 = .ok (.laload, 1) := by decide +kernel
theorem dL_law_2560 : decode cL_law 2560 = .ok (.iload 6, 2) := by decide +kernel
theorem dL_law_2562 : decode cL_law 2562 = .ok (.i2l, 1) := by decide +kernel
theorem dL_law_2563 : decode cL_law 2563 = .ok (.lcmp, 1) := by decide +kernel
theorem dL_law_2564 : decode cL_law 2564 = .ok (.ifCond .eq 5, 3) := by decide +kernel
theorem dL_law_2567 : decode cL_law 2567 = .ok (.iconst 0, 1) := by decide +kernel
theorem dL_law_2568 : decode cL_law 2568 = .ok (.ireturn, 1) := by decide +kernel
theorem dL_law_2569 : decode cL_law 2569 = .ok (.goto 85, 3) := by decide +kernel
theorem dL_law_2572 : decode cL_law 2572 = .ok (.aload_n 1, 1) := by decide +kernel
theorem dL_law_2573 : decode cL_law 2573 = .ok (.aload_n 0, 1) := by decide +kernel
theorem dL_law_2574 : decode cL_law 2574 = .ok (.iload 4, 2) := by decide +kernel
theorem dL_law_2576 : decode cL_law 2576 = .ok (.iconst 1, 1) := by decide +kernel
theorem dL_law_2577 : decode cL_law 2577 = .ok (.iadd, 1) := by decide +kernel
theorem dL_law_2578 : decode cL_law 2578 = .ok (.iaload, 1) := by decide +kernel
theorem dL_law_2579 : decode cL_law 2579 = .ok (.invokevirtual 298, 3) := by decide +kernel
theorem dL_law_2582 : decode cL_law 2582 = .ok (.aload_n 2, 1) := by decide +kernel
theorem dL_law_2583 : decode cL_law 2583 = .ok (.aload_n 0, 1) := by decide +kernel
theorem dL_law_2584 : decode cL_law 2584 = .ok (.iload 4, 2) := by decide +kernel
theorem dL_law_2586 : decode cL_law 2586 = .ok (.iconst 1, 1) := by decide +kernel
theorem dL_law_2587 : decode cL_law 2587 = .ok (.iadd, 1) := by decide +kernel
theorem dL_law_2588 : decode cL_law 2588 = .ok (.iaload, 1) := by decide +kernel
theorem dL_law_2589 : decode cL_law 2589 = .ok (.invokevirtual 301, 3) := by decide +kernel
theorem dL_law_2592 : decode cL_law 2592 = .ok (.if_icmp .eq 62, 3) := by decide +kernel
theorem dL_law_2595 : decode cL_law 2595 = .ok (.iconst 0, 1) := by decide +kernel
theorem dL_law_2596 : decode cL_law 2596 = .ok (.ireturn, 1) := by decide +kernel
theorem dL_law_2597 : decode cL_law 2597 = .ok (.aload_n 1, 1) := by decide +kernel
theorem dL_law_2598 : decode cL_law 2598 = .ok (.invokevirtual 302, 3) := by decide +kernel
theorem dL_law_2601 : decode cL_law 2601 = .ok (.aload_n 2, 1) := by decide +kernel
theorem dL_law_2602 : decode cL_law 2602 = .ok (.invokevirtual 305, 3) := by decide +kernel
theorem dL_law_2605 : decode cL_law 2605 = .ok (.if_icmp .eq 49, 3) := by decide +kernel
theorem dL_law_2608 : decode cL_law 2608 = .ok (.iconst 0, 1) := by decide +kernel
theorem dL_law_2609 : decode cL_law 2609 = .ok (.ireturn, 1) := by decide +kernel
theorem dL_law_2610 : decode cL_law 2610 = .ok (.aload_n 1, 1) := by decide +kernel
theorem dL_law_2611 : decode cL_law 2611 = .ok (.aload_n 3, 1) := by decide +kernel
theorem dL_law_2612 : decode cL_law 2612 = .ok (.invokestatic 306, 3) := by decide +kernel
theorem dL_law_2615 : decode cL_law 2615 = .ok (.istore 5, 2) := by decide +kernel
theorem dL_law_2617 : decode cL_law 2617 = .ok (.aload_n 2, 1) := by decide +kernel
theorem dL_law_2618 : decode cL_law 2618 = .ok (.invokevirtual 308, 3) := by decide +kernel
theorem dL_law_2621 : decode cL_law 2621 = .ok (.istore 6, 2) := by decide +kernel
theorem dL_law_2623 : decode cL_law 2623 = .ok (.aload_n 2, 1) := by decide +kernel
theorem dL_law_2624 : decode cL_law 2624 = .ok (.invokevirtual 164, 3) := by decide +kernel
theorem dL_law_2627 : decode cL_law 2627 = .ok (.iload 5, 2) := by decide +kernel
theorem dL_law_2629 : decode cL_law 2629 = .ok (.if_icmp .eq 5, 3) := by decide +kernel
theorem dL_law_2632 : decode cL_law 2632 = .ok (.iconst 0, 1) := by decide +kernel
theorem dL_law_2633 : decode cL_law 2633 = .ok (.ireturn, 1) := by decide +kernel
theorem dL_law_2634 : decode cL_law 2634 = .ok (.iload 5, 2) := by decide +kernel
theorem dL_law_2636 : decode cL_law 2636 = .ok (.ifCond .ne 15, 3) := by decide +kernel
theorem dL_law_2639 : decode cL_law 2639 = .ok (.aload_n 3, 1) := by decide +kernel
theorem dL_law_2640 : decode cL_law 2640 = .ok (.iconst 0, 1) := by decide +kernel
theorem dL_law_2641 : decode cL_law 2641 = .ok (.laload, 1) := by decide +kernel
theorem dL_law_2642 : decode cL_law 2642 = .ok (.iload 6, 2) := by decide +kernel
theorem dL_law_2644 : decode cL_law 2644 = .ok (.i2l, 1) := by decide +kernel
theorem dL_law_2645 : decode cL_law 2645 = .ok (.lcmp, 1) := by decide +kernel
theorem dL_law_2646 : decode cL_law 2646 = .ok (.ifCond .eq 5, 3) := by decide +kernel
theorem dL_law_2649 : decode cL_law 2649 = .ok (.iconst 0, 1) := by decide +kernel
theorem dL_law_2650 : decode cL_law 2650 = .ok (.ireturn, 1) := by decide +kernel
theorem dL_law_2651 : decode cL_law 2651 = .ok (.goto 3, 3) := by decide +kernel
theorem dL_law_2654 : decode cL_law 2654 = .ok (.iinc 4 6, 3) := by decide +kernel
theorem dL_law_2657 : decode cL_law 2657 = .ok (.goto (-2634), 3) := by decide +kernel
theorem dL_law_2660 : decode cL_law 2660 = .ok (.iconst 1, 1) := by decide +kernel
theorem dL_law_2661 : decode cL_law 2661 = .ok (.ireturn, 1) := by decide +kernel
