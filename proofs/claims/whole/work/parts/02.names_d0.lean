theorem dX0_init_0 : decode cX0_init 0 = .ok (.aload_n 0, 1) := by decide +kernel
theorem dX0_init_1 : decode cX0_init 1 = .ok (.invokespecial 3, 3) := by decide +kernel
theorem dX0_init_4 : decode cX0_init 4 = .ok (.aload_n 0, 1) := by decide +kernel
theorem dX0_init_5 : decode cX0_init 5 = .ok (.sipush 400, 3) := by decide +kernel
theorem dX0_init_8 : decode cX0_init 8 = .ok (.newarray .int, 2) := by decide +kernel
theorem dX0_init_10 : decode cX0_init 10 = .ok (.putfield 9, 3) := by decide +kernel
theorem dX0_init_13 : decode cX0_init 13 = .ok (.aload_n 0, 1) := by decide +kernel
theorem dX0_init_14 : decode cX0_init 14 = .ok (.sipush 400, 3) := by decide +kernel
theorem dX0_init_17 : decode cX0_init 17 = .ok (.newarray .int, 2) := by decide +kernel
theorem dX0_init_19 : decode cX0_init 19 = .ok (.putfield 15, 3) := by decide +kernel
theorem dX0_init_22 : decode cX0_init 22 = .ok (.aload_n 0, 1) := by decide +kernel
theorem dX0_init_23 : decode cX0_init 23 = .ok (.sipush 400, 3) := by decide +kernel
theorem dX0_init_26 : decode cX0_init 26 = .ok (.newarray .int, 2) := by decide +kernel
theorem dX0_init_28 : decode cX0_init 28 = .ok (.putfield 18, 3) := by decide +kernel
theorem dX0_init_31 : decode cX0_init 31 = .ok (.aload_n 0, 1) := by decide +kernel
theorem dX0_init_32 : decode cX0_init 32 = .ok (.sipush 400, 3) := by decide +kernel
theorem dX0_init_35 : decode cX0_init 35 = .ok (.newarray .int, 2) := by decide +kernel
theorem dX0_init_37 : decode cX0_init 37 = .ok (.putfield 21, 3) := by decide +kernel
theorem dX0_init_40 : decode cX0_init 40 = .ok (.aload_n 0, 1) := by decide +kernel
theorem dX0_init_41 : decode cX0_init 41 = .ok (.iconst 0, 1) := by decide +kernel
theorem dX0_init_42 : decode cX0_init 42 = .ok (.putfield 24, 3) := by decide +kernel
theorem dX0_init_45 : decode cX0_init 45 = .ok (.aload_n 0, 1) := by decide +kernel
theorem dX0_init_46 : decode cX0_init 46 = .ok (.iconst 0, 1) := by decide +kernel
theorem dX0_init_47 : decode cX0_init 47 = .ok (.putfield 28, 3) := by decide +kernel
theorem dX0_init_50 : decode cX0_init 50 = .ok (.aload_n 0, 1) := by decide +kernel
theorem dX0_init_51 : decode cX0_init 51 = .ok (.iconst 0, 1) := by decide +kernel
theorem dX0_init_52 : decode cX0_init 52 = .ok (.putfield 31, 3) := by decide +kernel
theorem dX0_init_55 : decode cX0_init 55 = .ok (.aload_n 0, 1) := by decide +kernel
theorem dX0_init_56 : decode cX0_init 56 = .ok (.iconst 0, 1) := by decide +kernel
theorem dX0_init_57 : decode cX0_init 57 = .ok (.putfield 34, 3) := by decide +kernel
theorem dX0_init_60 : decode cX0_init 60 = .ok (.aload_n 0, 1) := by decide +kernel
theorem dX0_init_61 : decode cX0_init 61 = .ok (.bipush (-3), 2) := by decide +kernel
theorem dX0_init_63 : decode cX0_init 63 = .ok (.putfield 37, 3) := by decide +kernel
theorem dX0_init_66 : decode cX0_init 66 = .ok (.return_, 1) := by decide +kernel
theorem dX0_clear_0 : decode cX0_clear 0 = .ok (.iconst 0, 1) := by decide +kernel
theorem dX0_clear_1 : decode cX0_clear 1 = .ok (.istore_n 1, 1) := by decide +kernel
theorem dX0_clear_2 : decode cX0_clear 2 = .ok (.iload_n 1, 1) := by decide +kernel
theorem dX0_clear_3 : decode cX0_clear 3 = .ok (.sipush 400, 3) := by decide +kernel
theorem dX0_clear_6 : decode cX0_clear 6 = .ok (.if_icmp .ge 16, 3) := by decide +kernel
theorem dX0_clear_9 : decode cX0_clear 9 = .ok (.aload_n 0, 1) := by decide +kernel
theorem dX0_clear_10 : decode cX0_clear 10 = .ok (.getfield 9, 3) := by decide +kernel
theorem dX0_clear_13 : decode cX0_clear 13 = .ok (.iload_n 1, 1) := by decide +kernel
theorem dX0_clear_14 : decode cX0_clear 14 = .ok (.iconst (-1), 1) := by decide +kernel
theorem dX0_clear_15 : decode cX0_clear 15 = .ok (.iastore, 1) := by decide +kernel
theorem dX0_clear_16 : decode cX0_clear 16 = .ok (.iinc 1 1, 3) := by decide +kernel
theorem dX0_clear_19 : decode cX0_clear 19 = .ok (.goto (-17), 3) := by decide +kernel
theorem dX0_clear_22 : decode cX0_clear 22 = .ok (.aload_n 0, 1) := by decide +kernel
theorem dX0_clear_23 : decode cX0_clear 23 = .ok (.iconst 0, 1) := by decide +kernel
theorem dX0_clear_24 : decode cX0_clear 24 = .ok (.putfield 24, 3) := by decide +kernel
theorem dX0_clear_27 : decode cX0_clear 27 = .ok (.aload_n 0, 1) := by decide +kernel
theorem dX0_clear_28 : decode cX0_clear 28 = .ok (.iconst 0, 1) := by decide +kernel
theorem dX0_clear_29 : decode cX0_clear 29 = .ok (.putfield 28, 3) := by decide +kernel
theorem dX0_clear_32 : decode cX0_clear 32 = .ok (.aload_n 0, 1) := by decide +kernel
theorem dX0_clear_33 : decode cX0_clear 33 = .ok (.iconst 0, 1) := by decide +kernel
theorem dX0_clear_34 : decode cX0_clear 34 = .ok (.putfield 31, 3) := by decide +kernel
theorem dX0_clear_37 : decode cX0_clear 37 = .ok (.aload_n 0, 1) := by decide +kernel
theorem dX0_clear_38 : decode cX0_clear 38 = .ok (.iconst 0, 1) := by decide +kernel
theorem dX0_clear_39 : decode cX0_clear 39 = .ok (.putfield 34, 3) := by decide +kernel
theorem dX0_clear_42 : decode cX0_clear 42 = .ok (.aload_n 0, 1) := by decide +kernel
theorem dX0_clear_43 : decode cX0_clear 43 = .ok (.bipush (-3), 2) := by decide +kernel
theorem dX0_clear_45 : decode cX0_clear 45 = .ok (.putfield 37, 3) := by decide +kernel
theorem dX0_clear_48 : decode cX0_clear 48 = .ok (.return_, 1) := by decide +kernel
theorem dX0_used_0 : decode cX0_used 0 = .ok (.aload_n 0, 1) := by decide +kernel
theorem dX0_used_1 : decode cX0_used 1 = .ok (.getfield 24, 3) := by decide +kernel
theorem dX0_used_4 : decode cX0_used 4 = .ok (.ireturn, 1) := by decide +kernel
theorem dX0_made_0 : decode cX0_made 0 = .ok (.aload_n 0, 1) := by decide +kernel
theorem dX0_made_1 : decode cX0_made 1 = .ok (.getfield 28, 3) := by decide +kernel
theorem dX0_made_4 : decode cX0_made 4 = .ok (.ireturn, 1) := by decide +kernel
theorem dX0_most_0 : decode cX0_most 0 = .ok (.aload_n 0, 1) := by decide +kernel
theorem dX0_most_1 : decode cX0_most 1 = .ok (.getfield 31, 3) := by decide +kernel
theorem dX0_most_4 : decode cX0_most 4 = .ok (.ireturn, 1) := by decide +kernel
theorem dX0_hasRoom_0 : decode cX0_hasRoom 0 = .ok (.aload_n 0, 1) := by decide +kernel
theorem dX0_hasRoom_1 : decode cX0_hasRoom 1 = .ok (.getfield 24, 3) := by decide +kernel
theorem dX0_hasRoom_4 : decode cX0_hasRoom 4 = .ok (.iload_n 1, 1) := by decide +kernel
theorem dX0_hasRoom_5 : decode cX0_hasRoom 5 = .ok (.iadd, 1) := by decide +kernel
theorem dX0_hasRoom_6 : decode cX0_hasRoom 6 = .ok (.sipush 400, 3) := by decide +kernel
theorem dX0_hasRoom_9 : decode cX0_hasRoom 9 = .ok (.if_icmp .gt 7, 3) := by decide +kernel
theorem dX0_hasRoom_12 : decode cX0_hasRoom 12 = .ok (.iconst 1, 1) := by decide +kernel
theorem dX0_hasRoom_13 : decode cX0_hasRoom 13 = .ok (.goto 4, 3) := by decide +kernel
theorem dX0_hasRoom_16 : decode cX0_hasRoom 16 = .ok (.iconst 0, 1) := by decide +kernel
theorem dX0_hasRoom_17 : decode cX0_hasRoom 17 = .ok (.ireturn, 1) := by decide +kernel
theorem dX0_workFor_0 : decode cX0_workFor 0 = .ok (.aload_n 0, 1) := by decide +kernel
theorem dX0_workFor_1 : decode cX0_workFor 1 = .ok (.iload_n 1, 1) := by decide +kernel
theorem dX0_workFor_2 : decode cX0_workFor 2 = .ok (.putfield 37, 3) := by decide +kernel
theorem dX0_workFor_5 : decode cX0_workFor 5 = .ok (.return_, 1) := by decide +kernel
theorem dX0_add_0 : decode cX0_add 0 = .ok (.aload_n 0, 1) := by decide +kernel
theorem dX0_add_1 : decode cX0_add 1 = .ok (.getfield 34, 3) := by decide +kernel
theorem dX0_add_4 : decode cX0_add 4 = .ok (.ifCond .ge 7, 3) := by decide +kernel
theorem dX0_add_7 : decode cX0_add 7 = .ok (.iconst 0, 1) := by decide +kernel
theorem dX0_add_8 : decode cX0_add 8 = .ok (.goto 7, 3) := by decide +kernel
theorem dX0_add_11 : decode cX0_add 11 = .ok (.aload_n 0, 1) := by decide +kernel
theorem dX0_add_12 : decode cX0_add 12 = .ok (.getfield 34, 3) := by decide +kernel
theorem dX0_add_15 : decode cX0_add 15 = .ok (.istore 4, 2) := by decide +kernel
theorem dX0_add_17 : decode cX0_add 17 = .ok (.iload 4, 2) := by decide +kernel
theorem dX0_add_19 : decode cX0_add 19 = .ok (.sipush 400, 3) := by decide +kernel
theorem dX0_add_22 : decode cX0_add 22 = .ok (.if_icmp .ge 20, 3) := by decide +kernel
theorem dX0_add_25 : decode cX0_add 25 = .ok (.aload_n 0, 1) := by decide +kernel
theorem dX0_add_26 : decode cX0_add 26 = .ok (.getfield 9, 3) := by decide +kernel
theorem dX0_add_29 : decode cX0_add 29 = .ok (.iload 4, 2) := by decide +kernel
theorem dX0_add_31 : decode cX0_add 31 = .ok (.iaload, 1) := by decide +kernel
theorem dX0_add_32 : decode cX0_add 32 = .ok (.iconst (-1), 1) := by decide +kernel
theorem dX0_add_33 : decode cX0_add 33 = .ok (.if_icmp .eq 9, 3) := by decide +kernel
theorem dX0_add_36 : decode cX0_add 36 = .ok (.iinc 4 1, 3) := by decide +kernel
theorem dX0_add_39 : decode cX0_add 39 = .ok (.goto (-22), 3) := by decide +kernel
theorem dX0_add_42 : decode cX0_add 42 = .ok (.iload 4, 2) := by decide +kernel
theorem dX0_add_44 : decode cX0_add 44 = .ok (.sipush 400, 3) := by decide +kernel
theorem dX0_add_47 : decode cX0_add 47 = .ok (.if_icmp .lt 5, 3) := by decide +kernel
theorem dX0_add_50 : decode cX0_add 50 = .ok (.iconst (-1), 1) := by decide +kernel
theorem dX0_add_51 : decode cX0_add 51 = .ok (.ireturn, 1) := by decide +kernel
theorem dX0_add_52 : decode cX0_add 52 = .ok (.aload_n 0, 1) := by decide +kernel
theorem dX0_add_53 : decode cX0_add 53 = .ok (.getfield 9, 3) := by decide +kernel
theorem dX0_add_56 : decode cX0_add 56 = .ok (.iload 4, 2) := by decide +kernel
theorem dX0_add_58 : decode cX0_add 58 = .ok (.iload_n 1, 1) := by decide +kernel
theorem dX0_add_59 : decode cX0_add 59 = .ok (.iastore, 1) := by decide +kernel
theorem dX0_add_60 : decode cX0_add 60 = .ok (.aload_n 0, 1) := by decide +kernel
theorem dX0_add_61 : decode cX0_add 61 = .ok (.getfield 15, 3) := by decide +kernel
theorem dX0_add_64 : decode cX0_add 64 = .ok (.iload 4, 2) := by decide +kernel
theorem dX0_add_66 : decode cX0_add 66 = .ok (.iload_n 2, 1) := by decide +kernel
theorem dX0_add_67 : decode cX0_add 67 = .ok (.iastore, 1) := by decide +kernel
theorem dX0_add_68 : decode cX0_add 68 = .ok (.aload_n 0, 1) := by decide +kernel
theorem dX0_add_69 : decode cX0_add 69 = .ok (.getfield 18, 3) := by decide +kernel
theorem dX0_add_72 : decode cX0_add 72 = .ok (.iload 4, 2) := by decide +kernel
theorem dX0_add_74 : decode cX0_add 74 = .ok (.iload_n 3, 1) := by decide +kernel
theorem dX0_add_75 : decode cX0_add 75 = .ok (.iastore, 1) := by decide +kernel
theorem dX0_add_76 : decode cX0_add 76 = .ok (.aload_n 0, 1) := by decide +kernel
theorem dX0_add_77 : decode cX0_add 77 = .ok (.getfield 21, 3) := by decide +kernel
theorem dX0_add_80 : decode cX0_add 80 = .ok (.iload 4, 2) := by decide +kernel
theorem dX0_add_82 : decode cX0_add 82 = .ok (.aload_n 0, 1) := by decide +kernel
theorem dX0_add_83 : decode cX0_add 83 = .ok (.getfield 37, 3) := by decide +kernel
theorem dX0_add_86 : decode cX0_add 86 = .ok (.iastore, 1) := by decide +kernel
theorem dX0_add_87 : decode cX0_add 87 = .ok (.aload_n 0, 1) := by decide +kernel
theorem dX0_add_88 : decode cX0_add 88 = .ok (.iload 4, 2) := by decide +kernel
theorem dX0_add_90 : decode cX0_add 90 = .ok (.iconst 1, 1) := by decide +kernel
theorem dX0_add_91 : decode cX0_add 91 = .ok (.iadd, 1) := by decide +kernel
theorem dX0_add_92 : decode cX0_add 92 = .ok (.putfield 34, 3) := by decide +kernel
theorem dX0_add_95 : decode cX0_add 95 = .ok (.aload_n 0, 1) := by decide +kernel
theorem dX0_add_96 : decode cX0_add 96 = .ok (.dup, 1) := by decide +kernel
theorem dX0_add_97 : decode cX0_add 97 = .ok (.getfield 24, 3) := by decide +kernel
theorem dX0_add_100 : decode cX0_add 100 = .ok (.iconst 1, 1) := by decide +kernel
theorem dX0_add_101 : decode cX0_add 101 = .ok (.iadd, 1) := by decide +kernel
theorem dX0_add_102 : decode cX0_add 102 = .ok (.putfield 24, 3) := by decide +kernel
theorem dX0_add_105 : decode cX0_add 105 = .ok (.aload_n 0, 1) := by decide +kernel
theorem dX0_add_106 : decode cX0_add 106 = .ok (.dup, 1) := by decide +kernel
theorem dX0_add_107 : decode cX0_add 107 = .ok (.getfield 28, 3) := by decide +kernel
theorem dX0_add_110 : decode cX0_add 110 = .ok (.iconst 1, 1) := by decide +kernel
theorem dX0_add_111 : decode cX0_add 111 = .ok (.iadd, 1) := by decide +kernel
theorem dX0_add_112 : decode cX0_add 112 = .ok (.putfield 28, 3) := by decide +kernel
theorem dX0_add_115 : decode cX0_add 115 = .ok (.aload_n 0, 1) := by decide +kernel
theorem dX0_add_116 : decode cX0_add 116 = .ok (.aload_n 0, 1) := by decide +kernel
theorem dX0_add_117 : decode cX0_add 117 = .ok (.getfield 24, 3) := by decide +kernel
theorem dX0_add_120 : decode cX0_add 120 = .ok (.aload_n 0, 1) := by decide +kernel
theorem dX0_add_121 : decode cX0_add 121 = .ok (.getfield 31, 3) := by decide +kernel
theorem dX0_add_124 : decode cX0_add 124 = .ok (.if_icmp .le 10, 3) := by decide +kernel
theorem dX0_add_127 : decode cX0_add 127 = .ok (.aload_n 0, 1) := by decide +kernel
theorem dX0_add_128 : decode cX0_add 128 = .ok (.getfield 24, 3) := by decide +kernel
theorem dX0_add_131 : decode cX0_add 131 = .ok (.goto 7, 3) := by decide +kernel
theorem dX0_add_134 : decode cX0_add 134 = .ok (.aload_n 0, 1) := by decide +kernel
theorem dX0_add_135 : decode cX0_add 135 = .ok (.getfield 31, 3) := by decide +kernel
theorem dX0_add_138 : decode cX0_add 138 = .ok (.putfield 31, 3) := by decide +kernel
theorem dX0_add_141 : decode cX0_add 141 = .ok (.iload 4, 2) := by decide +kernel
theorem dX0_add_143 : decode cX0_add 143 = .ok (.ireturn, 1) := by decide +kernel
theorem dX0_become_0 : decode cX0_become 0 = .ok (.iload_n 1, 1) := by decide +kernel
theorem dX0_become_1 : decode cX0_become 1 = .ok (.ifCond .lt 32, 3) := by decide +kernel
theorem dX0_become_4 : decode cX0_become 4 = .ok (.iload_n 1, 1) := by decide +kernel
theorem dX0_become_5 : decode cX0_become 5 = .ok (.sipush 400, 3) := by decide +kernel
theorem dX0_become_8 : decode cX0_become 8 = .ok (.if_icmp .ge 25, 3) := by decide +kernel
theorem dX0_become_11 : decode cX0_become 11 = .ok (.aload_n 0, 1) := by decide +kernel
theorem dX0_become_12 : decode cX0_become 12 = .ok (.getfield 9, 3) := by decide +kernel
theorem dX0_become_15 : decode cX0_become 15 = .ok (.iload_n 1, 1) := by decide +kernel
theorem dX0_become_16 : decode cX0_become 16 = .ok (.iload_n 2, 1) := by decide +kernel
theorem dX0_become_17 : decode cX0_become 17 = .ok (.iastore, 1) := by decide +kernel
theorem dX0_become_18 : decode cX0_become 18 = .ok (.aload_n 0, 1) := by decide +kernel
theorem dX0_become_19 : decode cX0_become 19 = .ok (.getfield 15, 3) := by decide +kernel
theorem dX0_become_22 : decode cX0_become 22 = .ok (.iload_n 1, 1) := by decide +kernel
theorem dX0_become_23 : decode cX0_become 23 = .ok (.iload_n 3, 1) := by decide +kernel
theorem dX0_become_24 : decode cX0_become 24 = .ok (.iastore, 1) := by decide +kernel
theorem dX0_become_25 : decode cX0_become 25 = .ok (.aload_n 0, 1) := by decide +kernel
theorem dX0_become_26 : decode cX0_become 26 = .ok (.getfield 18, 3) := by decide +kernel
theorem dX0_become_29 : decode cX0_become 29 = .ok (.iload_n 1, 1) := by decide +kernel
theorem dX0_become_30 : decode cX0_become 30 = .ok (.iload 4, 2) := by decide +kernel
theorem dX0_become_32 : decode cX0_become 32 = .ok (.iastore, 1) := by decide +kernel
theorem dX0_become_33 : decode cX0_become 33 = .ok (.return_, 1) := by decide +kernel
theorem dX0_free_0 : decode cX0_free 0 = .ok (.aload_n 0, 1) := by decide +kernel
theorem dX0_free_1 : decode cX0_free 1 = .ok (.iload_n 1, 1) := by decide +kernel
theorem dX0_free_2 : decode cX0_free 2 = .ok (.invokevirtual 40, 3) := by decide +kernel
theorem dX0_free_5 : decode cX0_free 5 = .ok (.ifCond .ne 42, 3) := by decide +kernel
theorem dX0_free_8 : decode cX0_free 8 = .ok (.aload_n 0, 1) := by decide +kernel
theorem dX0_free_9 : decode cX0_free 9 = .ok (.iload_n 1, 1) := by decide +kernel
theorem dX0_free_10 : decode cX0_free 10 = .ok (.iconst (-1), 1) := by decide +kernel
theorem dX0_free_11 : decode cX0_free 11 = .ok (.iconst 0, 1) := by decide +kernel
theorem dX0_free_12 : decode cX0_free 12 = .ok (.bipush (-3), 2) := by decide +kernel
theorem dX0_free_14 : decode cX0_free 14 = .ok (.invokevirtual 44, 3) := by decide +kernel
theorem dX0_free_17 : decode cX0_free 17 = .ok (.aload_n 0, 1) := by decide +kernel
theorem dX0_free_18 : decode cX0_free 18 = .ok (.dup, 1) := by decide +kernel
theorem dX0_free_19 : decode cX0_free 19 = .ok (.getfield 24, 3) := by decide +kernel
theorem dX0_free_22 : decode cX0_free 22 = .ok (.iconst 1, 1) := by decide +kernel
theorem dX0_free_23 : decode cX0_free 23 = .ok (.isub, 1) := by decide +kernel
theorem dX0_free_24 : decode cX0_free 24 = .ok (.putfield 24, 3) := by decide +kernel
theorem dX0_free_27 : decode cX0_free 27 = .ok (.aload_n 0, 1) := by decide +kernel
theorem dX0_free_28 : decode cX0_free 28 = .ok (.iload_n 1, 1) := by decide +kernel
theorem dX0_free_29 : decode cX0_free 29 = .ok (.aload_n 0, 1) := by decide +kernel
theorem dX0_free_30 : decode cX0_free 30 = .ok (.getfield 34, 3) := by decide +kernel
theorem dX0_free_33 : decode cX0_free 33 = .ok (.if_icmp .ge 7, 3) := by decide +kernel
theorem dX0_free_36 : decode cX0_free 36 = .ok (.iload_n 1, 1) := by decide +kernel
theorem dX0_free_37 : decode cX0_free 37 = .ok (.goto 7, 3) := by decide +kernel
theorem dX0_free_40 : decode cX0_free 40 = .ok (.aload_n 0, 1) := by decide +kernel
theorem dX0_free_41 : decode cX0_free 41 = .ok (.getfield 34, 3) := by decide +kernel
theorem dX0_free_44 : decode cX0_free 44 = .ok (.putfield 34, 3) := by decide +kernel
theorem dX0_free_47 : decode cX0_free 47 = .ok (.return_, 1) := by decide +kernel
theorem dX0_isFree_0 : decode cX0_isFree 0 = .ok (.aload_n 0, 1) := by decide +kernel
theorem dX0_isFree_1 : decode cX0_isFree 1 = .ok (.iload_n 1, 1) := by decide +kernel
theorem dX0_isFree_2 : decode cX0_isFree 2 = .ok (.invokevirtual 48, 3) := by decide +kernel
theorem dX0_isFree_5 : decode cX0_isFree 5 = .ok (.iconst (-1), 1) := by decide +kernel
theorem dX0_isFree_6 : decode cX0_isFree 6 = .ok (.if_icmp .ne 7, 3) := by decide +kernel
theorem dX0_isFree_9 : decode cX0_isFree 9 = .ok (.iconst 1, 1) := by decide +kernel
theorem dX0_isFree_10 : decode cX0_isFree 10 = .ok (.goto 4, 3) := by decide +kernel
theorem dX0_isFree_13 : decode cX0_isFree 13 = .ok (.iconst 0, 1) := by decide +kernel
theorem dX0_isFree_14 : decode cX0_isFree 14 = .ok (.ireturn, 1) := by decide +kernel
theorem dX0_kindOf_0 : decode cX0_kindOf 0 = .ok (.iload_n 1, 1) := by decide +kernel
theorem dX0_kindOf_1 : decode cX0_kindOf 1 = .ok (.ifCond .lt 19, 3) := by decide +kernel
theorem dX0_kindOf_4 : decode cX0_kindOf 4 = .ok (.iload_n 1, 1) := by decide +kernel
theorem dX0_kindOf_5 : decode cX0_kindOf 5 = .ok (.sipush 400, 3) := by decide +kernel
theorem dX0_kindOf_8 : decode cX0_kindOf 8 = .ok (.if_icmp .ge 12, 3) := by decide +kernel
theorem dX0_kindOf_11 : decode cX0_kindOf 11 = .ok (.aload_n 0, 1) := by decide +kernel
theorem dX0_kindOf_12 : decode cX0_kindOf 12 = .ok (.getfield 9, 3) := by decide +kernel
theorem dX0_kindOf_15 : decode cX0_kindOf 15 = .ok (.iload_n 1, 1) := by decide +kernel
theorem dX0_kindOf_16 : decode cX0_kindOf 16 = .ok (.iaload, 1) := by decide +kernel
theorem dX0_kindOf_17 : decode cX0_kindOf 17 = .ok (.goto 4, 3) := by decide +kernel
theorem dX0_kindOf_20 : decode cX0_kindOf 20 = .ok (.iconst (-1), 1) := by decide +kernel
theorem dX0_kindOf_21 : decode cX0_kindOf 21 = .ok (.ireturn, 1) := by decide +kernel
theorem dX0_firstOf_0 : decode cX0_firstOf 0 = .ok (.iload_n 1, 1) := by decide +kernel
theorem dX0_firstOf_1 : decode cX0_firstOf 1 = .ok (.ifCond .lt 19, 3) := by decide +kernel
theorem dX0_firstOf_4 : decode cX0_firstOf 4 = .ok (.iload_n 1, 1) := by decide +kernel
theorem dX0_firstOf_5 : decode cX0_firstOf 5 = .ok (.sipush 400, 3) := by decide +kernel
theorem dX0_firstOf_8 : decode cX0_firstOf 8 = .ok (.if_icmp .ge 12, 3) := by decide +kernel
theorem dX0_firstOf_11 : decode cX0_firstOf 11 = .ok (.aload_n 0, 1) := by decide +kernel
theorem dX0_firstOf_12 : decode cX0_firstOf 12 = .ok (.getfield 15, 3) := by decide +kernel
theorem dX0_firstOf_15 : decode cX0_firstOf 15 = .ok (.iload_n 1, 1) := by decide +kernel
theorem dX0_firstOf_16 : decode cX0_firstOf 16 = .ok (.iaload, 1) := by decide +kernel
theorem dX0_firstOf_17 : decode cX0_firstOf 17 = .ok (.goto 4, 3) := by decide +kernel
theorem dX0_firstOf_20 : decode cX0_firstOf 20 = .ok (.iconst (-1), 1) := by decide +kernel
theorem dX0_firstOf_21 : decode cX0_firstOf 21 = .ok (.ireturn, 1) := by decide +kernel
theorem dX0_secondOf_0 : decode cX0_secondOf 0 = .ok (.iload_n 1, 1) := by decide +kernel
theorem dX0_secondOf_1 : decode cX0_secondOf 1 = .ok (.ifCond .lt 19, 3) := by decide +kernel
theorem dX0_secondOf_4 : decode cX0_secondOf 4 = .ok (.iload_n 1, 1) := by decide +kernel
theorem dX0_secondOf_5 : decode cX0_secondOf 5 = .ok (.sipush 400, 3) := by decide +kernel
theorem dX0_secondOf_8 : decode cX0_secondOf 8 = .ok (.if_icmp .ge 12, 3) := by decide +kernel
theorem dX0_secondOf_11 : decode cX0_secondOf 11 = .ok (.aload_n 0, 1) := by decide +kernel
theorem dX0_secondOf_12 : decode cX0_secondOf 12 = .ok (.getfield 18, 3) := by decide +kernel
theorem dX0_secondOf_15 : decode cX0_secondOf 15 = .ok (.iload_n 1, 1) := by decide +kernel
theorem dX0_secondOf_16 : decode cX0_secondOf 16 = .ok (.iaload, 1) := by decide +kernel
theorem dX0_secondOf_17 : decode cX0_secondOf 17 = .ok (.goto 5, 3) := by decide +kernel
theorem dX0_secondOf_20 : decode cX0_secondOf 20 = .ok (.bipush (-3), 2) := by decide +kernel
theorem dX0_secondOf_22 : decode cX0_secondOf 22 = .ok (.ireturn, 1) := by decide +kernel
theorem dX0_makerOf_0 : decode cX0_makerOf 0 = .ok (.iload_n 1, 1) := by decide +kernel
theorem dX0_makerOf_1 : decode cX0_makerOf 1 = .ok (.ifCond .lt 19, 3) := by decide +kernel
theorem dX0_makerOf_4 : decode cX0_makerOf 4 = .ok (.iload_n 1, 1) := by decide +kernel
theorem dX0_makerOf_5 : decode cX0_makerOf 5 = .ok (.sipush 400, 3) := by decide +kernel
theorem dX0_makerOf_8 : decode cX0_makerOf 8 = .ok (.if_icmp .ge 12, 3) := by decide +kernel
theorem dX0_makerOf_11 : decode cX0_makerOf 11 = .ok (.aload_n 0, 1) := by decide +kernel
theorem dX0_makerOf_12 : decode cX0_makerOf 12 = .ok (.getfield 21, 3) := by decide +kernel
theorem dX0_makerOf_15 : decode cX0_makerOf 15 = .ok (.iload_n 1, 1) := by decide +kernel
theorem dX0_makerOf_16 : decode cX0_makerOf 16 = .ok (.iaload, 1) := by decide +kernel
theorem dX0_makerOf_17 : decode cX0_makerOf 17 = .ok (.goto 5, 3) := by decide +kernel
theorem dX0_makerOf_20 : decode cX0_makerOf 20 = .ok (.bipush (-3), 2) := by decide +kernel
theorem dX0_makerOf_22 : decode cX0_makerOf 22 = .ok (.ireturn, 1) := by decide +kernel
theorem dX0_hasTwo_0 : decode cX0_hasTwo 0 = .ok (.aload_n 0, 1) := by decide +kernel
theorem dX0_hasTwo_1 : decode cX0_hasTwo 1 = .ok (.iload_n 1, 1) := by decide +kernel
theorem dX0_hasTwo_2 : decode cX0_hasTwo 2 = .ok (.invokevirtual 48, 3) := by decide +kernel
theorem dX0_hasTwo_5 : decode cX0_hasTwo 5 = .ok (.istore_n 2, 1) := by decide +kernel
theorem dX0_hasTwo_6 : decode cX0_hasTwo 6 = .ok (.iload_n 2, 1) := by decide +kernel
theorem dX0_hasTwo_7 : decode cX0_hasTwo 7 = .ok (.iconst 1, 1) := by decide +kernel
theorem dX0_hasTwo_8 : decode cX0_hasTwo 8 = .ok (.if_icmp .eq 8, 3) := by decide +kernel
theorem dX0_hasTwo_11 : decode cX0_hasTwo 11 = .ok (.iload_n 2, 1) := by decide +kernel
theorem dX0_hasTwo_12 : decode cX0_hasTwo 12 = .ok (.iconst 4, 1) := by decide +kernel
theorem dX0_hasTwo_13 : decode cX0_hasTwo 13 = .ok (.if_icmp .ne 7, 3) := by decide +kernel
theorem dX0_hasTwo_16 : decode cX0_hasTwo 16 = .ok (.iconst 1, 1) := by decide +kernel
theorem dX0_hasTwo_17 : decode cX0_hasTwo 17 = .ok (.goto 4, 3) := by decide +kernel
theorem dX0_hasTwo_20 : decode cX0_hasTwo 20 = .ok (.iconst 0, 1) := by decide +kernel
theorem dX0_hasTwo_21 : decode cX0_hasTwo 21 = .ok (.ireturn, 1) := by decide +kernel
theorem dX0_hasOne_0 : decode cX0_hasOne 0 = .ok (.aload_n 0, 1) := by decide +kernel
theorem dX0_hasOne_1 : decode cX0_hasOne 1 = .ok (.iload_n 1, 1) := by decide +kernel
theorem dX0_hasOne_2 : decode cX0_hasOne 2 = .ok (.invokevirtual 48, 3) := by decide +kernel
theorem dX0_hasOne_5 : decode cX0_hasOne 5 = .ok (.bipush 6, 2) := by decide +kernel
theorem dX0_hasOne_7 : decode cX0_hasOne 7 = .ok (.if_icmp .ne 7, 3) := by decide +kernel
theorem dX0_hasOne_10 : decode cX0_hasOne 10 = .ok (.iconst 1, 1) := by decide +kernel
theorem dX0_hasOne_11 : decode cX0_hasOne 11 = .ok (.goto 4, 3) := by decide +kernel
theorem dX0_hasOne_14 : decode cX0_hasOne 14 = .ok (.iconst 0, 1) := by decide +kernel
theorem dX0_hasOne_15 : decode cX0_hasOne 15 = .ok (.ireturn, 1) := by decide +kernel
theorem dX0_followed_0 : decode cX0_followed 0 = .ok (.iload_n 1, 1) := by decide +kernel
theorem dX0_followed_1 : decode cX0_followed 1 = .ok (.istore_n 2, 1) := by decide +kernel
theorem dX0_followed_2 : decode cX0_followed 2 = .ok (.iconst 0, 1) := by decide +kernel
theorem dX0_followed_3 : decode cX0_followed 3 = .ok (.istore_n 3, 1) := by decide +kernel
theorem dX0_followed_4 : decode cX0_followed 4 = .ok (.iload_n 3, 1) := by decide +kernel
theorem dX0_followed_5 : decode cX0_followed 5 = .ok (.sipush 400, 3) := by decide +kernel
theorem dX0_followed_8 : decode cX0_followed 8 = .ok (.if_icmp .gt 27, 3) := by decide +kernel
theorem dX0_followed_11 : decode cX0_followed 11 = .ok (.aload_n 0, 1) := by decide +kernel
theorem dX0_followed_12 : decode cX0_followed 12 = .ok (.iload_n 2, 1) := by decide +kernel
theorem dX0_followed_13 : decode cX0_followed 13 = .ok (.invokevirtual 48, 3) := by decide +kernel
theorem dX0_followed_16 : decode cX0_followed 16 = .ok (.bipush 6, 2) := by decide +kernel
theorem dX0_followed_18 : decode cX0_followed 18 = .ok (.if_icmp .eq 5, 3) := by decide +kernel
theorem dX0_followed_21 : decode cX0_followed 21 = .ok (.iload_n 2, 1) := by decide +kernel
theorem dX0_followed_22 : decode cX0_followed 22 = .ok (.ireturn, 1) := by decide +kernel
theorem dX0_followed_23 : decode cX0_followed 23 = .ok (.aload_n 0, 1) := by decide +kernel
theorem dX0_followed_24 : decode cX0_followed 24 = .ok (.iload_n 2, 1) := by decide +kernel
theorem dX0_followed_25 : decode cX0_followed 25 = .ok (.invokevirtual 52, 3) := by decide +kernel
theorem dX0_followed_28 : decode cX0_followed 28 = .ok (.istore_n 2, 1) := by decide +kernel
theorem dX0_followed_29 : decode cX0_followed 29 = .ok (.iinc 3 1, 3) := by decide +kernel
theorem dX0_followed_32 : decode cX0_followed 32 = .ok (.goto (-28), 3) := by decide +kernel
theorem dX0_followed_35 : decode cX0_followed 35 = .ok (.iconst (-1), 1) := by decide +kernel
theorem dX0_followed_36 : decode cX0_followed 36 = .ok (.ireturn, 1) := by decide +kernel
theorem dX1_init_0 : decode cX1_init 0 = .ok (.aload_n 0, 1) := by decide +kernel
theorem dX1_init_1 : decode cX1_init 1 = .ok (.invokespecial 3, 3) := by decide +kernel
theorem dX1_init_4 : decode cX1_init 4 = .ok (.aload_n 0, 1) := by decide +kernel
theorem dX1_init_5 : decode cX1_init 5 = .ok (.sipush 400, 3) := by decide +kernel
theorem dX1_init_8 : decode cX1_init 8 = .ok (.newarray .int, 2) := by decide +kernel
theorem dX1_init_10 : decode cX1_init 10 = .ok (.putfield 9, 3) := by decide +kernel
theorem dX1_init_13 : decode cX1_init 13 = .ok (.aload_n 0, 1) := by decide +kernel
theorem dX1_init_14 : decode cX1_init 14 = .ok (.iconst 0, 1) := by decide +kernel
theorem dX1_init_15 : decode cX1_init 15 = .ok (.putfield 15, 3) := by decide +kernel
theorem dX1_init_18 : decode cX1_init 18 = .ok (.aload_n 0, 1) := by decide +kernel
theorem dX1_init_19 : decode cX1_init 19 = .ok (.sipush 400, 3) := by decide +kernel
theorem dX1_init_22 : decode cX1_init 22 = .ok (.newarray .int, 2) := by decide +kernel
theorem dX1_init_24 : decode cX1_init 24 = .ok (.putfield 19, 3) := by decide +kernel
theorem dX1_init_27 : decode cX1_init 27 = .ok (.aload_n 0, 1) := by decide +kernel
theorem dX1_init_28 : decode cX1_init 28 = .ok (.sipush 400, 3) := by decide +kernel
theorem dX1_init_31 : decode cX1_init 31 = .ok (.newarray .int, 2) := by decide +kernel
theorem dX1_init_33 : decode cX1_init 33 = .ok (.putfield 22, 3) := by decide +kernel
theorem dX1_init_36 : decode cX1_init 36 = .ok (.aload_n 0, 1) := by decide +kernel
theorem dX1_init_37 : decode cX1_init 37 = .ok (.aload_n 1, 1) := by decide +kernel
theorem dX1_init_38 : decode cX1_init 38 = .ok (.putfield 25, 3) := by decide +kernel
theorem dX1_init_41 : decode cX1_init 41 = .ok (.aload_n 0, 1) := by decide +kernel
theorem dX1_init_42 : decode cX1_init 42 = .ok (.aload_n 2, 1) := by decide +kernel
theorem dX1_init_43 : decode cX1_init 43 = .ok (.putfield 29, 3) := by decide +kernel
theorem dX1_init_46 : decode cX1_init 46 = .ok (.aload_n 0, 1) := by decide +kernel
theorem dX1_init_47 : decode cX1_init 47 = .ok (.aload_n 3, 1) := by decide +kernel
theorem dX1_init_48 : decode cX1_init 48 = .ok (.putfield 33, 3) := by decide +kernel
theorem dX1_init_51 : decode cX1_init 51 = .ok (.return_, 1) := by decide +kernel
theorem dX1_countKept_0 : decode cX1_countKept 0 = .ok (.aload_n 0, 1) := by decide +kernel
theorem dX1_countKept_1 : decode cX1_countKept 1 = .ok (.invokevirtual 37, 3) := by decide +kernel
theorem dX1_countKept_4 : decode cX1_countKept 4 = .ok (.aload_n 0, 1) := by decide +kernel
theorem dX1_countKept_5 : decode cX1_countKept 5 = .ok (.getfield 15, 3) := by decide +kernel
theorem dX1_countKept_8 : decode cX1_countKept 8 = .ok (.ireturn, 1) := by decide +kernel
theorem dX1_keeps_0 : decode cX1_keeps 0 = .ok (.aload_n 0, 1) := by decide +kernel
theorem dX1_keeps_1 : decode cX1_keeps 1 = .ok (.invokevirtual 37, 3) := by decide +kernel
theorem dX1_keeps_4 : decode cX1_keeps 4 = .ok (.aload_n 0, 1) := by decide +kernel
theorem dX1_keeps_5 : decode cX1_keeps 5 = .ok (.iload_n 1, 1) := by decide +kernel
theorem dX1_keeps_6 : decode cX1_keeps 6 = .ok (.invokevirtual 40, 3) := by decide +kernel
theorem dX1_keeps_9 : decode cX1_keeps 9 = .ok (.ifCond .le 7, 3) := by decide +kernel
theorem dX1_keeps_12 : decode cX1_keeps 12 = .ok (.iconst 1, 1) := by decide +kernel
theorem dX1_keeps_13 : decode cX1_keeps 13 = .ok (.goto 4, 3) := by decide +kernel
theorem dX1_keeps_16 : decode cX1_keeps 16 = .ok (.iconst 0, 1) := by decide +kernel
theorem dX1_keeps_17 : decode cX1_keeps 17 = .ok (.ireturn, 1) := by decide +kernel
theorem dX1_freeTheRest_0 : decode cX1_freeTheRest 0 = .ok (.aload_n 0, 1) := by decide +kernel
theorem dX1_freeTheRest_1 : decode cX1_freeTheRest 1 = .ok (.invokevirtual 37, 3) := by decide +kernel
theorem dX1_freeTheRest_4 : decode cX1_freeTheRest 4 = .ok (.iconst 0, 1) := by decide +kernel
theorem dX1_freeTheRest_5 : decode cX1_freeTheRest 5 = .ok (.istore_n 1, 1) := by decide +kernel
theorem dX1_freeTheRest_6 : decode cX1_freeTheRest 6 = .ok (.iconst 0, 1) := by decide +kernel
theorem dX1_freeTheRest_7 : decode cX1_freeTheRest 7 = .ok (.istore_n 2, 1) := by decide +kernel
theorem dX1_freeTheRest_8 : decode cX1_freeTheRest 8 = .ok (.iload_n 2, 1) := by decide +kernel
theorem dX1_freeTheRest_9 : decode cX1_freeTheRest 9 = .ok (.sipush 400, 3) := by decide +kernel
theorem dX1_freeTheRest_12 : decode cX1_freeTheRest 12 = .ok (.if_icmp .ge 40, 3) := by decide +kernel
theorem dX1_freeTheRest_15 : decode cX1_freeTheRest 15 = .ok (.aload_n 0, 1) := by decide +kernel
theorem dX1_freeTheRest_16 : decode cX1_freeTheRest 16 = .ok (.getfield 19, 3) := by decide +kernel
theorem dX1_freeTheRest_19 : decode cX1_freeTheRest 19 = .ok (.iload_n 2, 1) := by decide +kernel
theorem dX1_freeTheRest_20 : decode cX1_freeTheRest 20 = .ok (.iaload, 1) := by decide +kernel
theorem dX1_freeTheRest_21 : decode cX1_freeTheRest 21 = .ok (.ifCond .ne 25, 3) := by decide +kernel
theorem dX1_freeTheRest_24 : decode cX1_freeTheRest 24 = .ok (.aload_n 0, 1) := by decide +kernel
theorem dX1_freeTheRest_25 : decode cX1_freeTheRest 25 = .ok (.getfield 29, 3) := by decide +kernel
theorem dX1_freeTheRest_28 : decode cX1_freeTheRest 28 = .ok (.iload_n 2, 1) := by decide +kernel
theorem dX1_freeTheRest_29 : decode cX1_freeTheRest 29 = .ok (.invokevirtual 44, 3) := by decide +kernel
theorem dX1_freeTheRest_32 : decode cX1_freeTheRest 32 = .ok (.ifCond .ne 14, 3) := by decide +kernel
theorem dX1_freeTheRest_35 : decode cX1_freeTheRest 35 = .ok (.aload_n 0, 1) := by decide +kernel
theorem dX1_freeTheRest_36 : decode cX1_freeTheRest 36 = .ok (.getfield 29, 3) := by decide +kernel
theorem dX1_freeTheRest_39 : decode cX1_freeTheRest 39 = .ok (.iload_n 2, 1) := by decide +kernel
theorem dX1_freeTheRest_40 : decode cX1_freeTheRest 40 = .ok (.invokevirtual 50, 3) := by decide +kernel
theorem dX1_freeTheRest_43 : decode cX1_freeTheRest 43 = .ok (.iinc 1 1, 3) := by decide +kernel
theorem dX1_freeTheRest_46 : decode cX1_freeTheRest 46 = .ok (.iinc 2 1, 3) := by decide +kernel
theorem dX1_freeTheRest_49 : decode cX1_freeTheRest 49 = .ok (.goto (-41), 3) := by decide +kernel
theorem dX1_freeTheRest_52 : decode cX1_freeTheRest 52 = .ok (.iload_n 1, 1) := by decide +kernel
theorem dX1_freeTheRest_53 : decode cX1_freeTheRest 53 = .ok (.ireturn, 1) := by decide +kernel
theorem dX1_wayTo_0 : decode cX1_wayTo 0 = .ok (.aload_n 0, 1) := by decide +kernel
theorem dX1_wayTo_1 : decode cX1_wayTo 1 = .ok (.invokevirtual 37, 3) := by decide +kernel
theorem dX1_wayTo_4 : decode cX1_wayTo 4 = .ok (.aload_n 0, 1) := by decide +kernel
theorem dX1_wayTo_5 : decode cX1_wayTo 5 = .ok (.iload_n 1, 1) := by decide +kernel
theorem dX1_wayTo_6 : decode cX1_wayTo 6 = .ok (.invokevirtual 40, 3) := by decide +kernel
theorem dX1_wayTo_9 : decode cX1_wayTo 9 = .ok (.ireturn, 1) := by decide +kernel
theorem dX1_onWay_0 : decode cX1_onWay 0 = .ok (.iload_n 1, 1) := by decide +kernel
theorem dX1_onWay_1 : decode cX1_onWay 1 = .ok (.istore_n 3, 1) := by decide +kernel
theorem dX1_onWay_2 : decode cX1_onWay 2 = .ok (.aload_n 0, 1) := by decide +kernel
theorem dX1_onWay_3 : decode cX1_onWay 3 = .ok (.iload_n 1, 1) := by decide +kernel
theorem dX1_onWay_4 : decode cX1_onWay 4 = .ok (.invokevirtual 40, 3) := by decide +kernel
theorem dX1_onWay_7 : decode cX1_onWay 7 = .ok (.iconst 1, 1) := by decide +kernel
theorem dX1_onWay_8 : decode cX1_onWay 8 = .ok (.isub, 1) := by decide +kernel
theorem dX1_onWay_9 : decode cX1_onWay 9 = .ok (.istore 4, 2) := by decide +kernel
theorem dX1_onWay_11 : decode cX1_onWay 11 = .ok (.iload 4, 2) := by decide +kernel
theorem dX1_onWay_13 : decode cX1_onWay 13 = .ok (.iload_n 2, 1) := by decide +kernel
theorem dX1_onWay_14 : decode cX1_onWay 14 = .ok (.if_icmp .le 27, 3) := by decide +kernel
theorem dX1_onWay_17 : decode cX1_onWay 17 = .ok (.iload_n 3, 1) := by decide +kernel
theorem dX1_onWay_18 : decode cX1_onWay 18 = .ok (.ifCond .lt 23, 3) := by decide +kernel
theorem dX1_onWay_21 : decode cX1_onWay 21 = .ok (.iload_n 3, 1) := by decide +kernel
theorem dX1_onWay_22 : decode cX1_onWay 22 = .ok (.sipush 400, 3) := by decide +kernel
theorem dX1_onWay_25 : decode cX1_onWay 25 = .ok (.if_icmp .ge 16, 3) := by decide +kernel
theorem dX1_onWay_28 : decode cX1_onWay 28 = .ok (.aload_n 0, 1) := by decide +kernel
theorem dX1_onWay_29 : decode cX1_onWay 29 = .ok (.getfield 22, 3) := by decide +kernel
theorem dX1_onWay_32 : decode cX1_onWay 32 = .ok (.iload_n 3, 1) := by decide +kernel
theorem dX1_onWay_33 : decode cX1_onWay 33 = .ok (.iaload, 1) := by decide +kernel
theorem dX1_onWay_34 : decode cX1_onWay 34 = .ok (.istore_n 3, 1) := by decide +kernel
theorem dX1_onWay_35 : decode cX1_onWay 35 = .ok (.iinc 4 (-1), 3) := by decide +kernel
theorem dX1_onWay_38 : decode cX1_onWay 38 = .ok (.goto (-27), 3) := by decide +kernel
theorem dX1_onWay_41 : decode cX1_onWay 41 = .ok (.iload_n 3, 1) := by decide +kernel
theorem dX1_onWay_42 : decode cX1_onWay 42 = .ok (.ireturn, 1) := by decide +kernel
theorem dX1_placesThatHave_0 : decode cX1_placesThatHave 0 = .ok (.aload_n 0, 1) := by decide +kernel
theorem dX1_placesThatHave_1 : decode cX1_placesThatHave 1 = .ok (.invokevirtual 37, 3) := by decide +kernel
theorem dX1_placesThatHave_4 : decode cX1_placesThatHave 4 = .ok (.iconst 0, 1) := by decide +kernel
theorem dX1_placesThatHave_5 : decode cX1_placesThatHave 5 = .ok (.istore_n 2, 1) := by decide +kernel
theorem dX1_placesThatHave_6 : decode cX1_placesThatHave 6 = .ok (.iconst 0, 1) := by decide +kernel
theorem dX1_placesThatHave_7 : decode cX1_placesThatHave 7 = .ok (.istore_n 3, 1) := by decide +kernel
theorem dX1_placesThatHave_8 : decode cX1_placesThatHave 8 = .ok (.iload_n 3, 1) := by decide +kernel
theorem dX1_placesThatHave_9 : decode cX1_placesThatHave 9 = .ok (.aload_n 0, 1) := by decide +kernel
theorem dX1_placesThatHave_10 : decode cX1_placesThatHave 10 = .ok (.getfield 15, 3) := by decide +kernel
theorem dX1_placesThatHave_13 : decode cX1_placesThatHave 13 = .ok (.if_icmp .ge 92, 3) := by decide +kernel
theorem dX1_placesThatHave_16 : decode cX1_placesThatHave 16 = .ok (.iload_n 3, 1) := by decide +kernel
theorem dX1_placesThatHave_17 : decode cX1_placesThatHave 17 = .ok (.sipush 400, 3) := by decide +kernel
theorem dX1_placesThatHave_20 : decode cX1_placesThatHave 20 = .ok (.if_icmp .ge 85, 3) := by decide +kernel
theorem dX1_placesThatHave_23 : decode cX1_placesThatHave 23 = .ok (.aload_n 0, 1) := by decide +kernel
theorem dX1_placesThatHave_24 : decode cX1_placesThatHave 24 = .ok (.getfield 9, 3) := by decide +kernel
theorem dX1_placesThatHave_27 : decode cX1_placesThatHave 27 = .ok (.iload_n 3, 1) := by decide +kernel
theorem dX1_placesThatHave_28 : decode cX1_placesThatHave 28 = .ok (.iaload, 1) := by decide +kernel
theorem dX1_placesThatHave_29 : decode cX1_placesThatHave 29 = .ok (.istore 4, 2) := by decide +kernel
theorem dX1_placesThatHave_31 : decode cX1_placesThatHave 31 = .ok (.aload_n 0, 1) := by decide +kernel
theorem dX1_placesThatHave_32 : decode cX1_placesThatHave 32 = .ok (.getfield 29, 3) := by decide +kernel
theorem dX1_placesThatHave_35 : decode cX1_placesThatHave 35 = .ok (.iload 4, 2) := by decide +kernel
theorem dX1_placesThatHave_37 : decode cX1_placesThatHave 37 = .ok (.invokevirtual 54, 3) := by decide +kernel
theorem dX1_placesThatHave_40 : decode cX1_placesThatHave 40 = .ok (.ifCond .ne 15, 3) := by decide +kernel
theorem dX1_placesThatHave_43 : decode cX1_placesThatHave 43 = .ok (.aload_n 0, 1) := by decide +kernel
theorem dX1_placesThatHave_44 : decode cX1_placesThatHave 44 = .ok (.getfield 29, 3) := by decide +kernel
theorem dX1_placesThatHave_47 : decode cX1_placesThatHave 47 = .ok (.iload 4, 2) := by decide +kernel
theorem dX1_placesThatHave_49 : decode cX1_placesThatHave 49 = .ok (.invokevirtual 57, 3) := by decide +kernel
theorem dX1_placesThatHave_52 : decode cX1_placesThatHave 52 = .ok (.ifCond .eq 19, 3) := by decide +kernel
theorem dX1_placesThatHave_55 : decode cX1_placesThatHave 55 = .ok (.aload_n 0, 1) := by decide +kernel
theorem dX1_placesThatHave_56 : decode cX1_placesThatHave 56 = .ok (.getfield 29, 3) := by decide +kernel
theorem dX1_placesThatHave_59 : decode cX1_placesThatHave 59 = .ok (.iload 4, 2) := by decide +kernel
theorem dX1_placesThatHave_61 : decode cX1_placesThatHave 61 = .ok (.invokevirtual 60, 3) := by decide +kernel
theorem dX1_placesThatHave_64 : decode cX1_placesThatHave 64 = .ok (.iload_n 1, 1) := by decide +kernel
theorem dX1_placesThatHave_65 : decode cX1_placesThatHave 65 = .ok (.if_icmp .ne 6, 3) := by decide +kernel
theorem dX1_placesThatHave_68 : decode cX1_placesThatHave 68 = .ok (.iinc 2 1, 3) := by decide +kernel
theorem dX1_placesThatHave_71 : decode cX1_placesThatHave 71 = .ok (.aload_n 0, 1) := by decide +kernel
theorem dX1_placesThatHave_72 : decode cX1_placesThatHave 72 = .ok (.getfield 29, 3) := by decide +kernel
theorem dX1_placesThatHave_75 : decode cX1_placesThatHave 75 = .ok (.iload 4, 2) := by decide +kernel
theorem dX1_placesThatHave_77 : decode cX1_placesThatHave 77 = .ok (.invokevirtual 54, 3) := by decide +kernel
theorem dX1_placesThatHave_80 : decode cX1_placesThatHave 80 = .ok (.ifCond .eq 19, 3) := by decide +kernel
theorem dX1_placesThatHave_83 : decode cX1_placesThatHave 83 = .ok (.aload_n 0, 1) := by decide +kernel
theorem dX1_placesThatHave_84 : decode cX1_placesThatHave 84 = .ok (.getfield 29, 3) := by decide +kernel
theorem dX1_placesThatHave_87 : decode cX1_placesThatHave 87 = .ok (.iload 4, 2) := by decide +kernel
theorem dX1_placesThatHave_89 : decode cX1_placesThatHave 89 = .ok (.invokevirtual 63, 3) := by decide +kernel
theorem dX1_placesThatHave_92 : decode cX1_placesThatHave 92 = .ok (.iload_n 1, 1) := by decide +kernel
theorem dX1_placesThatHave_93 : decode cX1_placesThatHave 93 = .ok (.if_icmp .ne 6, 3) := by decide +kernel
theorem dX1_placesThatHave_96 : decode cX1_placesThatHave 96 = .ok (.iinc 2 1, 3) := by decide +kernel
theorem dX1_placesThatHave_99 : decode cX1_placesThatHave 99 = .ok (.iinc 3 1, 3) := by decide +kernel
theorem dX1_placesThatHave_102 : decode cX1_placesThatHave 102 = .ok (.goto (-94), 3) := by decide +kernel
theorem dX1_placesThatHave_105 : decode cX1_placesThatHave 105 = .ok (.iconst 0, 1) := by decide +kernel
theorem dX1_placesThatHave_106 : decode cX1_placesThatHave 106 = .ok (.istore_n 3, 1) := by decide +kernel
theorem dX1_placesThatHave_107 : decode cX1_placesThatHave 107 = .ok (.iload_n 3, 1) := by decide +kernel
theorem dX1_placesThatHave_108 : decode cX1_placesThatHave 108 = .ok (.aload_n 0, 1) := by decide +kernel
theorem dX1_placesThatHave_109 : decode cX1_placesThatHave 109 = .ok (.getfield 33, 3) := by decide +kernel
theorem dX1_placesThatHave_112 : decode cX1_placesThatHave 112 = .ok (.invokevirtual 66, 3) := by decide +kernel
theorem dX1_placesThatHave_115 : decode cX1_placesThatHave 115 = .ok (.if_icmp .ge 24, 3) := by decide +kernel
theorem dX1_placesThatHave_118 : decode cX1_placesThatHave 118 = .ok (.aload_n 0, 1) := by decide +kernel
theorem dX1_placesThatHave_119 : decode cX1_placesThatHave 119 = .ok (.getfield 33, 3) := by decide +kernel
theorem dX1_placesThatHave_122 : decode cX1_placesThatHave 122 = .ok (.iload_n 3, 1) := by decide +kernel
theorem dX1_placesThatHave_123 : decode cX1_placesThatHave 123 = .ok (.invokevirtual 72, 3) := by decide +kernel
theorem dX1_placesThatHave_126 : decode cX1_placesThatHave 126 = .ok (.iload_n 1, 1) := by decide +kernel
theorem dX1_placesThatHave_127 : decode cX1_placesThatHave 127 = .ok (.if_icmp .ne 6, 3) := by decide +kernel
theorem dX1_placesThatHave_130 : decode cX1_placesThatHave 130 = .ok (.iinc 2 1, 3) := by decide +kernel
theorem dX1_placesThatHave_133 : decode cX1_placesThatHave 133 = .ok (.iinc 3 1, 3) := by decide +kernel
theorem dX1_placesThatHave_136 : decode cX1_placesThatHave 136 = .ok (.goto (-29), 3) := by decide +kernel
theorem dX1_placesThatHave_139 : decode cX1_placesThatHave 139 = .ok (.iload_n 2, 1) := by decide +kernel
theorem dX1_placesThatHave_140 : decode cX1_placesThatHave 140 = .ok (.ireturn, 1) := by decide +kernel
theorem dX1_lengthOf_0 : decode cX1_lengthOf 0 = .ok (.iload_n 1, 1) := by decide +kernel
theorem dX1_lengthOf_1 : decode cX1_lengthOf 1 = .ok (.ifCond .lt 19, 3) := by decide +kernel
theorem dX1_lengthOf_4 : decode cX1_lengthOf 4 = .ok (.iload_n 1, 1) := by decide +kernel
theorem dX1_lengthOf_5 : decode cX1_lengthOf 5 = .ok (.sipush 400, 3) := by decide +kernel
theorem dX1_lengthOf_8 : decode cX1_lengthOf 8 = .ok (.if_icmp .ge 12, 3) := by decide +kernel
theorem dX1_lengthOf_11 : decode cX1_lengthOf 11 = .ok (.aload_n 0, 1) := by decide +kernel
theorem dX1_lengthOf_12 : decode cX1_lengthOf 12 = .ok (.getfield 19, 3) := by decide +kernel
theorem dX1_lengthOf_15 : decode cX1_lengthOf 15 = .ok (.iload_n 1, 1) := by decide +kernel
theorem dX1_lengthOf_16 : decode cX1_lengthOf 16 = .ok (.iaload, 1) := by decide +kernel
theorem dX1_lengthOf_17 : decode cX1_lengthOf 17 = .ok (.goto 4, 3) := by decide +kernel
theorem dX1_lengthOf_20 : decode cX1_lengthOf 20 = .ok (.iconst 0, 1) := by decide +kernel
theorem dX1_lengthOf_21 : decode cX1_lengthOf 21 = .ok (.ireturn, 1) := by decide +kernel
theorem dX1_findKept_0 : decode cX1_findKept 0 = .ok (.aload_n 0, 1) := by decide +kernel
theorem dX1_findKept_1 : decode cX1_findKept 1 = .ok (.iconst 0, 1) := by decide +kernel
theorem dX1_findKept_2 : decode cX1_findKept 2 = .ok (.putfield 15, 3) := by decide +kernel
theorem dX1_findKept_5 : decode cX1_findKept 5 = .ok (.aload_n 0, 1) := by decide +kernel
theorem dX1_findKept_6 : decode cX1_findKept 6 = .ok (.invokevirtual 75, 3) := by decide +kernel
theorem dX1_findKept_9 : decode cX1_findKept 9 = .ok (.iconst 0, 1) := by decide +kernel
theorem dX1_findKept_10 : decode cX1_findKept 10 = .ok (.istore_n 1, 1) := by decide +kernel
theorem dX1_findKept_11 : decode cX1_findKept 11 = .ok (.iload_n 1, 1) := by decide +kernel
theorem dX1_findKept_12 : decode cX1_findKept 12 = .ok (.sipush 400, 3) := by decide +kernel
theorem dX1_findKept_15 : decode cX1_findKept 15 = .ok (.if_icmp .ge 25, 3) := by decide +kernel
theorem dX1_findKept_18 : decode cX1_findKept 18 = .ok (.aload_n 0, 1) := by decide +kernel
theorem dX1_findKept_19 : decode cX1_findKept 19 = .ok (.getfield 19, 3) := by decide +kernel
theorem dX1_findKept_22 : decode cX1_findKept 22 = .ok (.iload_n 1, 1) := by decide +kernel
theorem dX1_findKept_23 : decode cX1_findKept 23 = .ok (.iaload, 1) := by decide +kernel
theorem dX1_findKept_24 : decode cX1_findKept 24 = .ok (.iconst 1, 1) := by decide +kernel
theorem dX1_findKept_25 : decode cX1_findKept 25 = .ok (.if_icmp .ne 9, 3) := by decide +kernel
theorem dX1_findKept_28 : decode cX1_findKept 28 = .ok (.aload_n 0, 1) := by decide +kernel
theorem dX1_findKept_29 : decode cX1_findKept 29 = .ok (.iload_n 1, 1) := by decide +kernel
theorem dX1_findKept_30 : decode cX1_findKept 30 = .ok (.iconst (-1), 1) := by decide +kernel
theorem dX1_findKept_31 : decode cX1_findKept 31 = .ok (.invokevirtual 78, 3) := by decide +kernel
theorem dX1_findKept_34 : decode cX1_findKept 34 = .ok (.iinc 1 1, 3) := by decide +kernel
theorem dX1_findKept_37 : decode cX1_findKept 37 = .ok (.goto (-26), 3) := by decide +kernel
theorem dX1_findKept_40 : decode cX1_findKept 40 = .ok (.iconst 0, 1) := by decide +kernel
theorem dX1_findKept_41 : decode cX1_findKept 41 = .ok (.istore_n 1, 1) := by decide +kernel
theorem dX1_findKept_42 : decode cX1_findKept 42 = .ok (.iload_n 1, 1) := by decide +kernel
theorem dX1_findKept_43 : decode cX1_findKept 43 = .ok (.aload_n 0, 1) := by decide +kernel
theorem dX1_findKept_44 : decode cX1_findKept 44 = .ok (.getfield 15, 3) := by decide +kernel
theorem dX1_findKept_47 : decode cX1_findKept 47 = .ok (.if_icmp .ge 107, 3) := by decide +kernel
theorem dX1_findKept_50 : decode cX1_findKept 50 = .ok (.iload_n 1, 1) := by decide +kernel
theorem dX1_findKept_51 : decode cX1_findKept 51 = .ok (.sipush 400, 3) := by decide +kernel
theorem dX1_findKept_54 : decode cX1_findKept 54 = .ok (.if_icmp .ge 100, 3) := by decide +kernel
theorem dX1_findKept_57 : decode cX1_findKept 57 = .ok (.aload_n 0, 1) := by decide +kernel
theorem dX1_findKept_58 : decode cX1_findKept 58 = .ok (.getfield 9, 3) := by decide +kernel
theorem dX1_findKept_61 : decode cX1_findKept 61 = .ok (.iload_n 1, 1) := by decide +kernel
theorem dX1_findKept_62 : decode cX1_findKept 62 = .ok (.iaload, 1) := by decide +kernel
theorem dX1_findKept_63 : decode cX1_findKept 63 = .ok (.istore_n 2, 1) := by decide +kernel
theorem dX1_findKept_64 : decode cX1_findKept 64 = .ok (.aload_n 0, 1) := by decide +kernel
theorem dX1_findKept_65 : decode cX1_findKept 65 = .ok (.getfield 29, 3) := by decide +kernel
theorem dX1_findKept_68 : decode cX1_findKept 68 = .ok (.iload_n 2, 1) := by decide +kernel
theorem dX1_findKept_69 : decode cX1_findKept 69 = .ok (.invokevirtual 60, 3) := by decide +kernel
theorem dX1_findKept_72 : decode cX1_findKept 72 = .ok (.istore_n 3, 1) := by decide +kernel
theorem dX1_findKept_73 : decode cX1_findKept 73 = .ok (.aload_n 0, 1) := by decide +kernel
theorem dX1_findKept_74 : decode cX1_findKept 74 = .ok (.getfield 29, 3) := by decide +kernel
theorem dX1_findKept_77 : decode cX1_findKept 77 = .ok (.iload_n 2, 1) := by decide +kernel
theorem dX1_findKept_78 : decode cX1_findKept 78 = .ok (.invokevirtual 63, 3) := by decide +kernel
theorem dX1_findKept_81 : decode cX1_findKept 81 = .ok (.istore 4, 2) := by decide +kernel
theorem dX1_findKept_83 : decode cX1_findKept 83 = .ok (.aload_n 0, 1) := by decide +kernel
theorem dX1_findKept_84 : decode cX1_findKept 84 = .ok (.getfield 29, 3) := by decide +kernel
theorem dX1_findKept_87 : decode cX1_findKept 87 = .ok (.iload_n 2, 1) := by decide +kernel
theorem dX1_findKept_88 : decode cX1_findKept 88 = .ok (.invokevirtual 54, 3) := by decide +kernel
theorem dX1_findKept_91 : decode cX1_findKept 91 = .ok (.ifCond .eq 40, 3) := by decide +kernel
theorem dX1_findKept_94 : decode cX1_findKept 94 = .ok (.aload_n 0, 1) := by decide +kernel
theorem dX1_findKept_95 : decode cX1_findKept 95 = .ok (.iload_n 3, 1) := by decide +kernel
theorem dX1_findKept_96 : decode cX1_findKept 96 = .ok (.iload 4, 2) := by decide +kernel
theorem dX1_findKept_98 : decode cX1_findKept 98 = .ok (.if_icmp .ge 7, 3) := by decide +kernel
theorem dX1_findKept_101 : decode cX1_findKept 101 = .ok (.iload_n 3, 1) := by decide +kernel
theorem dX1_findKept_102 : decode cX1_findKept 102 = .ok (.goto 5, 3) := by decide +kernel
theorem dX1_findKept_105 : decode cX1_findKept 105 = .ok (.iload 4, 2) := by decide +kernel
theorem dX1_findKept_107 : decode cX1_findKept 107 = .ok (.iload_n 2, 1) := by decide +kernel
theorem dX1_findKept_108 : decode cX1_findKept 108 = .ok (.invokevirtual 82, 3) := by decide +kernel
theorem dX1_findKept_111 : decode cX1_findKept 111 = .ok (.aload_n 0, 1) := by decide +kernel
theorem dX1_findKept_112 : decode cX1_findKept 112 = .ok (.iload_n 3, 1) := by decide +kernel
theorem dX1_findKept_113 : decode cX1_findKept 113 = .ok (.iload 4, 2) := by decide +kernel
theorem dX1_findKept_115 : decode cX1_findKept 115 = .ok (.if_icmp .ge 8, 3) := by decide +kernel
theorem dX1_findKept_118 : decode cX1_findKept 118 = .ok (.iload 4, 2) := by decide +kernel
theorem dX1_findKept_120 : decode cX1_findKept 120 = .ok (.goto 4, 3) := by decide +kernel
theorem dX1_findKept_123 : decode cX1_findKept 123 = .ok (.iload_n 3, 1) := by decide +kernel
theorem dX1_findKept_124 : decode cX1_findKept 124 = .ok (.iload_n 2, 1) := by decide +kernel
theorem dX1_findKept_125 : decode cX1_findKept 125 = .ok (.invokevirtual 82, 3) := by decide +kernel
theorem dX1_findKept_128 : decode cX1_findKept 128 = .ok (.goto 20, 3) := by decide +kernel
theorem dX1_findKept_131 : decode cX1_findKept 131 = .ok (.aload_n 0, 1) := by decide +kernel
theorem dX1_findKept_132 : decode cX1_findKept 132 = .ok (.getfield 29, 3) := by decide +kernel
theorem dX1_findKept_135 : decode cX1_findKept 135 = .ok (.iload_n 2, 1) := by decide +kernel
theorem dX1_findKept_136 : decode cX1_findKept 136 = .ok (.invokevirtual 57, 3) := by decide +kernel
theorem dX1_findKept_139 : decode cX1_findKept 139 = .ok (.ifCond .eq 9, 3) := by decide +kernel
theorem dX1_findKept_142 : decode cX1_findKept 142 = .ok (.aload_n 0, 1) := by decide +kernel
theorem dX1_findKept_143 : decode cX1_findKept 143 = .ok (.iload_n 3, 1) := by decide +kernel
theorem dX1_findKept_144 : decode cX1_findKept 144 = .ok (.iload_n 2, 1) := by decide +kernel
theorem dX1_findKept_145 : decode cX1_findKept 145 = .ok (.invokevirtual 82, 3) := by decide +kernel
theorem dX1_findKept_148 : decode cX1_findKept 148 = .ok (.iinc 1 1, 3) := by decide +kernel
theorem dX1_findKept_151 : decode cX1_findKept 151 = .ok (.goto (-109), 3) := by decide +kernel
theorem dX1_findKept_154 : decode cX1_findKept 154 = .ok (.return_, 1) := by decide +kernel
theorem dX1_markBeginnings_0 : decode cX1_markBeginnings 0 = .ok (.iconst 0, 1) := by decide +kernel
theorem dX1_markBeginnings_1 : decode cX1_markBeginnings 1 = .ok (.istore_n 1, 1) := by decide +kernel
theorem dX1_markBeginnings_2 : decode cX1_markBeginnings 2 = .ok (.iload_n 1, 1) := by decide +kernel
theorem dX1_markBeginnings_3 : decode cX1_markBeginnings 3 = .ok (.sipush 400, 3) := by decide +kernel
theorem dX1_markBeginnings_6 : decode cX1_markBeginnings 6 = .ok (.if_icmp .ge 31, 3) := by decide +kernel
theorem dX1_markBeginnings_9 : decode cX1_markBeginnings 9 = .ok (.aload_n 0, 1) := by decide +kernel
theorem dX1_markBeginnings_10 : decode cX1_markBeginnings 10 = .ok (.getfield 19, 3) := by decide +kernel
theorem dX1_markBeginnings_13 : decode cX1_markBeginnings 13 = .ok (.iload_n 1, 1) := by decide +kernel
theorem dX1_markBeginnings_14 : decode cX1_markBeginnings 14 = .ok (.iload_n 1, 1) := by decide +kernel
theorem dX1_markBeginnings_15 : decode cX1_markBeginnings 15 = .ok (.aload_n 0, 1) := by decide +kernel
theorem dX1_markBeginnings_16 : decode cX1_markBeginnings 16 = .ok (.getfield 25, 3) := by decide +kernel
theorem dX1_markBeginnings_19 : decode cX1_markBeginnings 19 = .ok (.invokevirtual 85, 3) := by decide +kernel
theorem dX1_markBeginnings_22 : decode cX1_markBeginnings 22 = .ok (.if_icmp .ge 7, 3) := by decide +kernel
theorem dX1_markBeginnings_25 : decode cX1_markBeginnings 25 = .ok (.iconst 1, 1) := by decide +kernel
theorem dX1_markBeginnings_26 : decode cX1_markBeginnings 26 = .ok (.goto 4, 3) := by decide +kernel
theorem dX1_markBeginnings_29 : decode cX1_markBeginnings 29 = .ok (.iconst 0, 1) := by decide +kernel
theorem dX1_markBeginnings_30 : decode cX1_markBeginnings 30 = .ok (.iastore, 1) := by decide +kernel
theorem dX1_markBeginnings_31 : decode cX1_markBeginnings 31 = .ok (.iinc 1 1, 3) := by decide +kernel
theorem dX1_markBeginnings_34 : decode cX1_markBeginnings 34 = .ok (.goto (-32), 3) := by decide +kernel
theorem dX1_markBeginnings_37 : decode cX1_markBeginnings 37 = .ok (.iconst 0, 1) := by decide +kernel
theorem dX1_markBeginnings_38 : decode cX1_markBeginnings 38 = .ok (.istore_n 1, 1) := by decide +kernel
theorem dX1_markBeginnings_39 : decode cX1_markBeginnings 39 = .ok (.iload_n 1, 1) := by decide +kernel
theorem dX1_markBeginnings_40 : decode cX1_markBeginnings 40 = .ok (.aload_n 0, 1) := by decide +kernel
theorem dX1_markBeginnings_41 : decode cX1_markBeginnings 41 = .ok (.getfield 33, 3) := by decide +kernel
theorem dX1_markBeginnings_44 : decode cX1_markBeginnings 44 = .ok (.invokevirtual 66, 3) := by decide +kernel
theorem dX1_markBeginnings_47 : decode cX1_markBeginnings 47 = .ok (.if_icmp .ge 36, 3) := by decide +kernel
theorem dX1_markBeginnings_50 : decode cX1_markBeginnings 50 = .ok (.aload_n 0, 1) := by decide +kernel
theorem dX1_markBeginnings_51 : decode cX1_markBeginnings 51 = .ok (.getfield 33, 3) := by decide +kernel
theorem dX1_markBeginnings_54 : decode cX1_markBeginnings 54 = .ok (.iload_n 1, 1) := by decide +kernel
theorem dX1_markBeginnings_55 : decode cX1_markBeginnings 55 = .ok (.invokevirtual 72, 3) := by decide +kernel
theorem dX1_markBeginnings_58 : decode cX1_markBeginnings 58 = .ok (.istore_n 2, 1) := by decide +kernel
theorem dX1_markBeginnings_59 : decode cX1_markBeginnings 59 = .ok (.iload_n 2, 1) := by decide +kernel
theorem dX1_markBeginnings_60 : decode cX1_markBeginnings 60 = .ok (.ifCond .lt 17, 3) := by decide +kernel
theorem dX1_markBeginnings_63 : decode cX1_markBeginnings 63 = .ok (.iload_n 2, 1) := by decide +kernel
theorem dX1_markBeginnings_64 : decode cX1_markBeginnings 64 = .ok (.sipush 400, 3) := by decide +kernel
theorem dX1_markBeginnings_67 : decode cX1_markBeginnings 67 = .ok (.if_icmp .ge 10, 3) := by decide +kernel
theorem dX1_markBeginnings_70 : decode cX1_markBeginnings 70 = .ok (.aload_n 0, 1) := by decide +kernel
theorem dX1_markBeginnings_71 : decode cX1_markBeginnings 71 = .ok (.getfield 19, 3) := by decide +kernel
theorem dX1_markBeginnings_74 : decode cX1_markBeginnings 74 = .ok (.iload_n 2, 1) := by decide +kernel
theorem dX1_markBeginnings_75 : decode cX1_markBeginnings 75 = .ok (.iconst 1, 1) := by decide +kernel
theorem dX1_markBeginnings_76 : decode cX1_markBeginnings 76 = .ok (.iastore, 1) := by decide +kernel
theorem dX1_markBeginnings_77 : decode cX1_markBeginnings 77 = .ok (.iinc 1 1, 3) := by decide +kernel
theorem dX1_markBeginnings_80 : decode cX1_markBeginnings 80 = .ok (.goto (-41), 3) := by decide +kernel
theorem dX1_markBeginnings_83 : decode cX1_markBeginnings 83 = .ok (.return_, 1) := by decide +kernel
theorem dX1_comeTo_0 : decode cX1_comeTo 0 = .ok (.iload_n 1, 1) := by decide +kernel
theorem dX1_comeTo_1 : decode cX1_comeTo 1 = .ok (.ifCond .lt 38, 3) := by decide +kernel
theorem dX1_comeTo_4 : decode cX1_comeTo 4 = .ok (.iload_n 1, 1) := by decide +kernel
theorem dX1_comeTo_5 : decode cX1_comeTo 5 = .ok (.sipush 400, 3) := by decide +kernel
theorem dX1_comeTo_8 : decode cX1_comeTo 8 = .ok (.if_icmp .ge 31, 3) := by decide +kernel
theorem dX1_comeTo_11 : decode cX1_comeTo 11 = .ok (.aload_n 0, 1) := by decide +kernel
theorem dX1_comeTo_12 : decode cX1_comeTo 12 = .ok (.getfield 19, 3) := by decide +kernel
theorem dX1_comeTo_15 : decode cX1_comeTo 15 = .ok (.iload_n 1, 1) := by decide +kernel
theorem dX1_comeTo_16 : decode cX1_comeTo 16 = .ok (.iaload, 1) := by decide +kernel
theorem dX1_comeTo_17 : decode cX1_comeTo 17 = .ok (.ifCond .ne 22, 3) := by decide +kernel
theorem dX1_comeTo_20 : decode cX1_comeTo 20 = .ok (.aload_n 0, 1) := by decide +kernel
theorem dX1_comeTo_21 : decode cX1_comeTo 21 = .ok (.getfield 19, 3) := by decide +kernel
theorem dX1_comeTo_24 : decode cX1_comeTo 24 = .ok (.iload_n 1, 1) := by decide +kernel
theorem dX1_comeTo_25 : decode cX1_comeTo 25 = .ok (.aload_n 0, 1) := by decide +kernel
theorem dX1_comeTo_26 : decode cX1_comeTo 26 = .ok (.iload_n 2, 1) := by decide +kernel
theorem dX1_comeTo_27 : decode cX1_comeTo 27 = .ok (.invokevirtual 40, 3) := by decide +kernel
theorem dX1_comeTo_30 : decode cX1_comeTo 30 = .ok (.iconst 1, 1) := by decide +kernel
theorem dX1_comeTo_31 : decode cX1_comeTo 31 = .ok (.iadd, 1) := by decide +kernel
theorem dX1_comeTo_32 : decode cX1_comeTo 32 = .ok (.iastore, 1) := by decide +kernel
theorem dX1_comeTo_33 : decode cX1_comeTo 33 = .ok (.aload_n 0, 1) := by decide +kernel
theorem dX1_comeTo_34 : decode cX1_comeTo 34 = .ok (.iload_n 1, 1) := by decide +kernel
theorem dX1_comeTo_35 : decode cX1_comeTo 35 = .ok (.iload_n 2, 1) := by decide +kernel
theorem dX1_comeTo_36 : decode cX1_comeTo 36 = .ok (.invokevirtual 78, 3) := by decide +kernel
theorem dX1_comeTo_39 : decode cX1_comeTo 39 = .ok (.return_, 1) := by decide +kernel
theorem dX1_addFound_0 : decode cX1_addFound 0 = .ok (.iload_n 1, 1) := by decide +kernel
theorem dX1_addFound_1 : decode cX1_addFound 1 = .ok (.ifCond .lt 54, 3) := by decide +kernel
theorem dX1_addFound_4 : decode cX1_addFound 4 = .ok (.iload_n 1, 1) := by decide +kernel
theorem dX1_addFound_5 : decode cX1_addFound 5 = .ok (.sipush 400, 3) := by decide +kernel
theorem dX1_addFound_8 : decode cX1_addFound 8 = .ok (.if_icmp .ge 47, 3) := by decide +kernel
theorem dX1_addFound_11 : decode cX1_addFound 11 = .ok (.aload_n 0, 1) := by decide +kernel
theorem dX1_addFound_12 : decode cX1_addFound 12 = .ok (.getfield 15, 3) := by decide +kernel
theorem dX1_addFound_15 : decode cX1_addFound 15 = .ok (.ifCond .lt 40, 3) := by decide +kernel
theorem dX1_addFound_18 : decode cX1_addFound 18 = .ok (.aload_n 0, 1) := by decide +kernel
theorem dX1_addFound_19 : decode cX1_addFound 19 = .ok (.getfield 15, 3) := by decide +kernel
theorem dX1_addFound_22 : decode cX1_addFound 22 = .ok (.sipush 400, 3) := by decide +kernel
theorem dX1_addFound_25 : decode cX1_addFound 25 = .ok (.if_icmp .ge 30, 3) := by decide +kernel
theorem dX1_addFound_28 : decode cX1_addFound 28 = .ok (.aload_n 0, 1) := by decide +kernel
theorem dX1_addFound_29 : decode cX1_addFound 29 = .ok (.getfield 22, 3) := by decide +kernel
theorem dX1_addFound_32 : decode cX1_addFound 32 = .ok (.iload_n 1, 1) := by decide +kernel
theorem dX1_addFound_33 : decode cX1_addFound 33 = .ok (.iload_n 2, 1) := by decide +kernel
theorem dX1_addFound_34 : decode cX1_addFound 34 = .ok (.iastore, 1) := by decide +kernel
theorem dX1_addFound_35 : decode cX1_addFound 35 = .ok (.aload_n 0, 1) := by decide +kernel
theorem dX1_addFound_36 : decode cX1_addFound 36 = .ok (.getfield 9, 3) := by decide +kernel
theorem dX1_addFound_39 : decode cX1_addFound 39 = .ok (.aload_n 0, 1) := by decide +kernel
theorem dX1_addFound_40 : decode cX1_addFound 40 = .ok (.getfield 15, 3) := by decide +kernel
theorem dX1_addFound_43 : decode cX1_addFound 43 = .ok (.iload_n 1, 1) := by decide +kernel
theorem dX1_addFound_44 : decode cX1_addFound 44 = .ok (.iastore, 1) := by decide +kernel
theorem dX1_addFound_45 : decode cX1_addFound 45 = .ok (.aload_n 0, 1) := by decide +kernel
theorem dX1_addFound_46 : decode cX1_addFound 46 = .ok (.dup, 1) := by decide +kernel
theorem dX1_addFound_47 : decode cX1_addFound 47 = .ok (.getfield 15, 3) := by decide +kernel
theorem dX1_addFound_50 : decode cX1_addFound 50 = .ok (.iconst 1, 1) := by decide +kernel
theorem dX1_addFound_51 : decode cX1_addFound 51 = .ok (.iadd, 1) := by decide +kernel
theorem dX1_addFound_52 : decode cX1_addFound 52 = .ok (.putfield 15, 3) := by decide +kernel
theorem dX1_addFound_55 : decode cX1_addFound 55 = .ok (.return_, 1) := by decide +kernel
theorem dX2_init_0 : decode cX2_init 0 = .ok (.aload_n 0, 1) := by decide +kernel
theorem dX2_init_1 : decode cX2_init 1 = .ok (.invokespecial 3, 3) := by decide +kernel
theorem dX2_init_4 : decode cX2_init 4 = .ok (.aload_n 0, 1) := by decide +kernel
theorem dX2_init_5 : decode cX2_init 5 = .ok (.bipush 20, 2) := by decide +kernel
theorem dX2_init_7 : decode cX2_init 7 = .ok (.newarray .int, 2) := by decide +kernel
theorem dX2_init_9 : decode cX2_init 9 = .ok (.putfield 9, 3) := by decide +kernel
theorem dX2_init_12 : decode cX2_init 12 = .ok (.aload_n 0, 1) := by decide +kernel
theorem dX2_init_13 : decode cX2_init 13 = .ok (.bipush 20, 2) := by decide +kernel
theorem dX2_init_15 : decode cX2_init 15 = .ok (.newarray .int, 2) := by decide +kernel
theorem dX2_init_17 : decode cX2_init 17 = .ok (.putfield 15, 3) := by decide +kernel
theorem dX2_init_20 : decode cX2_init 20 = .ok (.aload_n 0, 1) := by decide +kernel
theorem dX2_init_21 : decode cX2_init 21 = .ok (.iconst 0, 1) := by decide +kernel
theorem dX2_init_22 : decode cX2_init 22 = .ok (.putfield 18, 3) := by decide +kernel
theorem dX2_init_25 : decode cX2_init 25 = .ok (.aload_n 0, 1) := by decide +kernel
theorem dX2_init_26 : decode cX2_init 26 = .ok (.iconst 0, 1) := by decide +kernel
theorem dX2_init_27 : decode cX2_init 27 = .ok (.putfield 22, 3) := by decide +kernel
theorem dX2_init_30 : decode cX2_init 30 = .ok (.aload_n 0, 1) := by decide +kernel
theorem dX2_init_31 : decode cX2_init 31 = .ok (.iconst (-1), 1) := by decide +kernel
theorem dX2_init_32 : decode cX2_init 32 = .ok (.putfield 25, 3) := by decide +kernel
theorem dX2_init_35 : decode cX2_init 35 = .ok (.aload_n 0, 1) := by decide +kernel
theorem dX2_init_36 : decode cX2_init 36 = .ok (.iconst (-1), 1) := by decide +kernel
theorem dX2_init_37 : decode cX2_init 37 = .ok (.putfield 28, 3) := by decide +kernel
theorem dX2_init_40 : decode cX2_init 40 = .ok (.aload_n 0, 1) := by decide +kernel
theorem dX2_init_41 : decode cX2_init 41 = .ok (.iconst (-1), 1) := by decide +kernel
theorem dX2_init_42 : decode cX2_init 42 = .ok (.putfield 31, 3) := by decide +kernel
theorem dX2_init_45 : decode cX2_init 45 = .ok (.aload_n 0, 1) := by decide +kernel
theorem dX2_init_46 : decode cX2_init 46 = .ok (.aload_n 1, 1) := by decide +kernel
theorem dX2_init_47 : decode cX2_init 47 = .ok (.putfield 34, 3) := by decide +kernel
theorem dX2_init_50 : decode cX2_init 50 = .ok (.aload_n 0, 1) := by decide +kernel
theorem dX2_init_51 : decode cX2_init 51 = .ok (.aload_n 2, 1) := by decide +kernel
theorem dX2_init_52 : decode cX2_init 52 = .ok (.putfield 38, 3) := by decide +kernel
theorem dX2_init_55 : decode cX2_init 55 = .ok (.aload_n 0, 1) := by decide +kernel
theorem dX2_init_56 : decode cX2_init 56 = .ok (.aload_n 3, 1) := by decide +kernel
theorem dX2_init_57 : decode cX2_init 57 = .ok (.putfield 42, 3) := by decide +kernel
theorem dX2_init_60 : decode cX2_init 60 = .ok (.aload_n 0, 1) := by decide +kernel
theorem dX2_init_61 : decode cX2_init 61 = .ok (.new 46, 3) := by decide +kernel
theorem dX2_init_64 : decode cX2_init 64 = .ok (.dup, 1) := by decide +kernel
theorem dX2_init_65 : decode cX2_init 65 = .ok (.aload_n 1, 1) := by decide +kernel
theorem dX2_init_66 : decode cX2_init 66 = .ok (.aload_n 2, 1) := by decide +kernel
theorem dX2_init_67 : decode cX2_init 67 = .ok (.invokespecial 48, 3) := by decide +kernel
theorem dX2_init_70 : decode cX2_init 70 = .ok (.putfield 51, 3) := by decide +kernel
theorem dX2_init_73 : decode cX2_init 73 = .ok (.return_, 1) := by decide +kernel
theorem dX2_begin_0 : decode cX2_begin 0 = .ok (.aload_n 0, 1) := by decide +kernel
theorem dX2_begin_1 : decode cX2_begin 1 = .ok (.getfield 38, 3) := by decide +kernel
theorem dX2_begin_4 : decode cX2_begin 4 = .ok (.invokevirtual 55, 3) := by decide +kernel
theorem dX2_begin_7 : decode cX2_begin 7 = .ok (.iconst 0, 1) := by decide +kernel
theorem dX2_begin_8 : decode cX2_begin 8 = .ok (.istore_n 1, 1) := by decide +kernel
theorem dX2_begin_9 : decode cX2_begin 9 = .ok (.iload_n 1, 1) := by decide +kernel
theorem dX2_begin_10 : decode cX2_begin 10 = .ok (.bipush 20, 2) := by decide +kernel
theorem dX2_begin_12 : decode cX2_begin 12 = .ok (.if_icmp .ge 46, 3) := by decide +kernel
theorem dX2_begin_15 : decode cX2_begin 15 = .ok (.aload_n 0, 1) := by decide +kernel
theorem dX2_begin_16 : decode cX2_begin 16 = .ok (.getfield 9, 3) := by decide +kernel
theorem dX2_begin_19 : decode cX2_begin 19 = .ok (.iload_n 1, 1) := by decide +kernel
theorem dX2_begin_20 : decode cX2_begin 20 = .ok (.iconst 0, 1) := by decide +kernel
theorem dX2_begin_21 : decode cX2_begin 21 = .ok (.iastore, 1) := by decide +kernel
theorem dX2_begin_22 : decode cX2_begin 22 = .ok (.aload_n 0, 1) := by decide +kernel
theorem dX2_begin_23 : decode cX2_begin 23 = .ok (.getfield 15, 3) := by decide +kernel
theorem dX2_begin_26 : decode cX2_begin 26 = .ok (.iload_n 1, 1) := by decide +kernel
theorem dX2_begin_27 : decode cX2_begin 27 = .ok (.iconst 0, 1) := by decide +kernel
theorem dX2_begin_28 : decode cX2_begin 28 = .ok (.iastore, 1) := by decide +kernel
theorem dX2_begin_29 : decode cX2_begin 29 = .ok (.iload_n 1, 1) := by decide +kernel
theorem dX2_begin_30 : decode cX2_begin 30 = .ok (.aload_n 0, 1) := by decide +kernel
theorem dX2_begin_31 : decode cX2_begin 31 = .ok (.getfield 34, 3) := by decide +kernel
theorem dX2_begin_34 : decode cX2_begin 34 = .ok (.invokevirtual 60, 3) := by decide +kernel
theorem dX2_begin_37 : decode cX2_begin 37 = .ok (.if_icmp .ge 15, 3) := by decide +kernel
theorem dX2_begin_40 : decode cX2_begin 40 = .ok (.aload_n 0, 1) := by decide +kernel
theorem dX2_begin_41 : decode cX2_begin 41 = .ok (.getfield 38, 3) := by decide +kernel
theorem dX2_begin_44 : decode cX2_begin 44 = .ok (.iconst 2, 1) := by decide +kernel
theorem dX2_begin_45 : decode cX2_begin 45 = .ok (.iload_n 1, 1) := by decide +kernel
theorem dX2_begin_46 : decode cX2_begin 46 = .ok (.bipush (-3), 2) := by decide +kernel
theorem dX2_begin_48 : decode cX2_begin 48 = .ok (.invokevirtual 66, 3) := by decide +kernel
theorem dX2_begin_51 : decode cX2_begin 51 = .ok (.pop, 1) := by decide +kernel
theorem dX2_begin_52 : decode cX2_begin 52 = .ok (.iinc 1 1, 3) := by decide +kernel
theorem dX2_begin_55 : decode cX2_begin 55 = .ok (.goto (-46), 3) := by decide +kernel
theorem dX2_begin_58 : decode cX2_begin 58 = .ok (.aload_n 0, 1) := by decide +kernel
theorem dX2_begin_59 : decode cX2_begin 59 = .ok (.getfield 42, 3) := by decide +kernel
theorem dX2_begin_62 : decode cX2_begin 62 = .ok (.aload_n 0, 1) := by decide +kernel
theorem dX2_begin_63 : decode cX2_begin 63 = .ok (.getfield 34, 3) := by decide +kernel
theorem dX2_begin_66 : decode cX2_begin 66 = .ok (.ldc2_w 72, 3) := by decide +kernel
theorem dX2_begin_69 : decode cX2_begin 69 = .ok (.invokevirtual 74, 3) := by decide +kernel
theorem dX2_begin_72 : decode cX2_begin 72 = .ok (.invokevirtual 78, 3) := by decide +kernel
theorem dX2_begin_75 : decode cX2_begin 75 = .ok (.aload_n 0, 1) := by decide +kernel
theorem dX2_begin_76 : decode cX2_begin 76 = .ok (.iconst 0, 1) := by decide +kernel
theorem dX2_begin_77 : decode cX2_begin 77 = .ok (.putfield 18, 3) := by decide +kernel
theorem dX2_begin_80 : decode cX2_begin 80 = .ok (.return_, 1) := by decide +kernel
theorem dX2_stepsDone_0 : decode cX2_stepsDone 0 = .ok (.aload_n 0, 1) := by decide +kernel
theorem dX2_stepsDone_1 : decode cX2_stepsDone 1 = .ok (.getfield 18, 3) := by decide +kernel
theorem dX2_stepsDone_4 : decode cX2_stepsDone 4 = .ok (.ireturn, 1) := by decide +kernel
theorem dX2_errorFound_0 : decode cX2_errorFound 0 = .ok (.aload_n 0, 1) := by decide +kernel
theorem dX2_errorFound_1 : decode cX2_errorFound 1 = .ok (.getfield 22, 3) := by decide +kernel
theorem dX2_errorFound_4 : decode cX2_errorFound 4 = .ok (.ireturn, 1) := by decide +kernel
theorem dX2_timesMade_0 : decode cX2_timesMade 0 = .ok (.iload_n 1, 1) := by decide +kernel
theorem dX2_timesMade_1 : decode cX2_timesMade 1 = .ok (.ifCond .lt 18, 3) := by decide +kernel
theorem dX2_timesMade_4 : decode cX2_timesMade 4 = .ok (.iload_n 1, 1) := by decide +kernel
theorem dX2_timesMade_5 : decode cX2_timesMade 5 = .ok (.bipush 20, 2) := by decide +kernel
theorem dX2_timesMade_7 : decode cX2_timesMade 7 = .ok (.if_icmp .ge 12, 3) := by decide +kernel
theorem dX2_timesMade_10 : decode cX2_timesMade 10 = .ok (.aload_n 0, 1) := by decide +kernel
theorem dX2_timesMade_11 : decode cX2_timesMade 11 = .ok (.getfield 9, 3) := by decide +kernel
theorem dX2_timesMade_14 : decode cX2_timesMade 14 = .ok (.iload_n 1, 1) := by decide +kernel
theorem dX2_timesMade_15 : decode cX2_timesMade 15 = .ok (.iaload, 1) := by decide +kernel
theorem dX2_timesMade_16 : decode cX2_timesMade 16 = .ok (.goto 4, 3) := by decide +kernel
theorem dX2_timesMade_19 : decode cX2_timesMade 19 = .ok (.iconst 0, 1) := by decide +kernel
theorem dX2_timesMade_20 : decode cX2_timesMade 20 = .ok (.ireturn, 1) := by decide +kernel
theorem dX2_nodesMadeBy_0 : decode cX2_nodesMadeBy 0 = .ok (.iload_n 1, 1) := by decide +kernel
theorem dX2_nodesMadeBy_1 : decode cX2_nodesMadeBy 1 = .ok (.ifCond .lt 18, 3) := by decide +kernel
theorem dX2_nodesMadeBy_4 : decode cX2_nodesMadeBy 4 = .ok (.iload_n 1, 1) := by decide +kernel
theorem dX2_nodesMadeBy_5 : decode cX2_nodesMadeBy 5 = .ok (.bipush 20, 2) := by decide +kernel
theorem dX2_nodesMadeBy_7 : decode cX2_nodesMadeBy 7 = .ok (.if_icmp .ge 12, 3) := by decide +kernel
theorem dX2_nodesMadeBy_10 : decode cX2_nodesMadeBy 10 = .ok (.aload_n 0, 1) := by decide +kernel
theorem dX2_nodesMadeBy_11 : decode cX2_nodesMadeBy 11 = .ok (.getfield 15, 3) := by decide +kernel
theorem dX2_nodesMadeBy_14 : decode cX2_nodesMadeBy 14 = .ok (.iload_n 1, 1) := by decide +kernel
theorem dX2_nodesMadeBy_15 : decode cX2_nodesMadeBy 15 = .ok (.iaload, 1) := by decide +kernel
theorem dX2_nodesMadeBy_16 : decode cX2_nodesMadeBy 16 = .ok (.goto 4, 3) := by decide +kernel
theorem dX2_nodesMadeBy_19 : decode cX2_nodesMadeBy 19 = .ok (.iconst 0, 1) := by decide +kernel
theorem dX2_nodesMadeBy_20 : decode cX2_nodesMadeBy 20 = .ok (.ireturn, 1) := by decide +kernel
theorem dX2_wouldMake_0 : decode cX2_wouldMake 0 = .ok (.aload_n 0, 1) := by decide +kernel
theorem dX2_wouldMake_1 : decode cX2_wouldMake 1 = .ok (.getfield 42, 3) := by decide +kernel
theorem dX2_wouldMake_4 : decode cX2_wouldMake 4 = .ok (.iconst 0, 1) := by decide +kernel
theorem dX2_wouldMake_5 : decode cX2_wouldMake 5 = .ok (.invokevirtual 84, 3) := by decide +kernel
theorem dX2_wouldMake_8 : decode cX2_wouldMake 8 = .ok (.istore_n 2, 1) := by decide +kernel
theorem dX2_wouldMake_9 : decode cX2_wouldMake 9 = .ok (.aload_n 0, 1) := by decide +kernel
theorem dX2_wouldMake_10 : decode cX2_wouldMake 10 = .ok (.getfield 38, 3) := by decide +kernel
theorem dX2_wouldMake_13 : decode cX2_wouldMake 13 = .ok (.iload_n 2, 1) := by decide +kernel
theorem dX2_wouldMake_14 : decode cX2_wouldMake 14 = .ok (.invokevirtual 88, 3) := by decide +kernel
theorem dX2_wouldMake_17 : decode cX2_wouldMake 17 = .ok (.iconst 2, 1) := by decide +kernel
theorem dX2_wouldMake_18 : decode cX2_wouldMake 18 = .ok (.if_icmp .ne 27, 3) := by decide +kernel
theorem dX2_wouldMake_21 : decode cX2_wouldMake 21 = .ok (.aload_n 0, 1) := by decide +kernel
theorem dX2_wouldMake_22 : decode cX2_wouldMake 22 = .ok (.getfield 38, 3) := by decide +kernel
theorem dX2_wouldMake_25 : decode cX2_wouldMake 25 = .ok (.iload_n 2, 1) := by decide +kernel
theorem dX2_wouldMake_26 : decode cX2_wouldMake 26 = .ok (.invokevirtual 91, 3) := by decide +kernel
theorem dX2_wouldMake_29 : decode cX2_wouldMake 29 = .ok (.iload_n 1, 1) := by decide +kernel
theorem dX2_wouldMake_30 : decode cX2_wouldMake 30 = .ok (.if_icmp .ne 15, 3) := by decide +kernel
theorem dX2_wouldMake_33 : decode cX2_wouldMake 33 = .ok (.aload_n 0, 1) := by decide +kernel
theorem dX2_wouldMake_34 : decode cX2_wouldMake 34 = .ok (.invokevirtual 94, 3) := by decide +kernel
theorem dX2_wouldMake_37 : decode cX2_wouldMake 37 = .ok (.iconst 2, 1) := by decide +kernel
theorem dX2_wouldMake_38 : decode cX2_wouldMake 38 = .ok (.if_icmp .ne 7, 3) := by decide +kernel
theorem dX2_wouldMake_41 : decode cX2_wouldMake 41 = .ok (.iconst 1, 1) := by decide +kernel
theorem dX2_wouldMake_42 : decode cX2_wouldMake 42 = .ok (.goto 4, 3) := by decide +kernel
theorem dX2_wouldMake_45 : decode cX2_wouldMake 45 = .ok (.iconst 0, 1) := by decide +kernel
theorem dX2_wouldMake_46 : decode cX2_wouldMake 46 = .ok (.ireturn, 1) := by decide +kernel
theorem dX2_attempt_0 : decode cX2_attempt 0 = .ok (.aload_n 0, 1) := by decide +kernel
theorem dX2_attempt_1 : decode cX2_attempt 1 = .ok (.invokevirtual 94, 3) := by decide +kernel
theorem dX2_attempt_4 : decode cX2_attempt 4 = .ok (.istore_n 1, 1) := by decide +kernel
theorem dX2_attempt_5 : decode cX2_attempt 5 = .ok (.iload_n 1, 1) := by decide +kernel
theorem dX2_attempt_6 : decode cX2_attempt 6 = .ok (.bipush 6, 2) := by decide +kernel
theorem dX2_attempt_8 : decode cX2_attempt 8 = .ok (.if_icmp .ne 5, 3) := by decide +kernel
theorem dX2_attempt_11 : decode cX2_attempt 11 = .ok (.iconst 1, 1) := by decide +kernel
theorem dX2_attempt_12 : decode cX2_attempt 12 = .ok (.ireturn, 1) := by decide +kernel
theorem dX2_attempt_13 : decode cX2_attempt 13 = .ok (.iload_n 1, 1) := by decide +kernel
theorem dX2_attempt_14 : decode cX2_attempt 14 = .ok (.bipush 7, 2) := by decide +kernel
theorem dX2_attempt_16 : decode cX2_attempt 16 = .ok (.if_icmp .ne 5, 3) := by decide +kernel
theorem dX2_attempt_19 : decode cX2_attempt 19 = .ok (.iconst 2, 1) := by decide +kernel
theorem dX2_attempt_20 : decode cX2_attempt 20 = .ok (.ireturn, 1) := by decide +kernel
theorem dX2_attempt_21 : decode cX2_attempt 21 = .ok (.aload_n 0, 1) := by decide +kernel
theorem dX2_attempt_22 : decode cX2_attempt 22 = .ok (.getfield 18, 3) := by decide +kernel
theorem dX2_attempt_25 : decode cX2_attempt 25 = .ok (.sipush 5000, 3) := by decide +kernel
theorem dX2_attempt_28 : decode cX2_attempt 28 = .ok (.if_icmp .ge 11, 3) := by decide +kernel
theorem dX2_attempt_31 : decode cX2_attempt 31 = .ok (.aload_n 0, 1) := by decide +kernel
theorem dX2_attempt_32 : decode cX2_attempt 32 = .ok (.iload_n 1, 1) := by decide +kernel
theorem dX2_attempt_33 : decode cX2_attempt 33 = .ok (.invokevirtual 97, 3) := by decide +kernel
theorem dX2_attempt_36 : decode cX2_attempt 36 = .ok (.ifCond .ne 5, 3) := by decide +kernel
theorem dX2_attempt_39 : decode cX2_attempt 39 = .ok (.iconst 3, 1) := by decide +kernel
theorem dX2_attempt_40 : decode cX2_attempt 40 = .ok (.ireturn, 1) := by decide +kernel
theorem dX2_attempt_41 : decode cX2_attempt 41 = .ok (.aload_n 0, 1) := by decide +kernel
theorem dX2_attempt_42 : decode cX2_attempt 42 = .ok (.iload_n 1, 1) := by decide +kernel
theorem dX2_attempt_43 : decode cX2_attempt 43 = .ok (.invokevirtual 101, 3) := by decide +kernel
theorem dX2_attempt_46 : decode cX2_attempt 46 = .ok (.aload_n 0, 1) := by decide +kernel
theorem dX2_attempt_47 : decode cX2_attempt 47 = .ok (.dup, 1) := by decide +kernel
theorem dX2_attempt_48 : decode cX2_attempt 48 = .ok (.getfield 18, 3) := by decide +kernel
theorem dX2_attempt_51 : decode cX2_attempt 51 = .ok (.iconst 1, 1) := by decide +kernel
theorem dX2_attempt_52 : decode cX2_attempt 52 = .ok (.iadd, 1) := by decide +kernel
theorem dX2_attempt_53 : decode cX2_attempt 53 = .ok (.putfield 18, 3) := by decide +kernel
theorem dX2_attempt_56 : decode cX2_attempt 56 = .ok (.iconst 0, 1) := by decide +kernel
theorem dX2_attempt_57 : decode cX2_attempt 57 = .ok (.ireturn, 1) := by decide +kernel
theorem dX2_look_0 : decode cX2_look 0 = .ok (.aload_n 0, 1) := by decide +kernel
theorem dX2_look_1 : decode cX2_look 1 = .ok (.iconst 0, 1) := by decide +kernel
theorem dX2_look_2 : decode cX2_look 2 = .ok (.putfield 22, 3) := by decide +kernel
theorem dX2_look_5 : decode cX2_look 5 = .ok (.aload_n 0, 1) := by decide +kernel
theorem dX2_look_6 : decode cX2_look 6 = .ok (.getfield 42, 3) := by decide +kernel
theorem dX2_look_9 : decode cX2_look 9 = .ok (.iconst 0, 1) := by decide +kernel
theorem dX2_look_10 : decode cX2_look 10 = .ok (.invokevirtual 84, 3) := by decide +kernel
theorem dX2_look_13 : decode cX2_look 13 = .ok (.istore_n 1, 1) := by decide +kernel
theorem dX2_look_14 : decode cX2_look 14 = .ok (.aload_n 0, 1) := by decide +kernel
theorem dX2_look_15 : decode cX2_look 15 = .ok (.getfield 38, 3) := by decide +kernel
theorem dX2_look_18 : decode cX2_look 18 = .ok (.iload_n 1, 1) := by decide +kernel
theorem dX2_look_19 : decode cX2_look 19 = .ok (.invokevirtual 91, 3) := by decide +kernel
theorem dX2_look_22 : decode cX2_look 22 = .ok (.istore_n 2, 1) := by decide +kernel
theorem dX2_look_23 : decode cX2_look 23 = .ok (.aload_n 0, 1) := by decide +kernel
theorem dX2_look_24 : decode cX2_look 24 = .ok (.getfield 42, 3) := by decide +kernel
theorem dX2_look_27 : decode cX2_look 27 = .ok (.invokevirtual 104, 3) := by decide +kernel
theorem dX2_look_30 : decode cX2_look 30 = .ok (.iconst 1, 1) := by decide +kernel
theorem dX2_look_31 : decode cX2_look 31 = .ok (.isub, 1) := by decide +kernel
theorem dX2_look_32 : decode cX2_look 32 = .ok (.istore_n 3, 1) := by decide +kernel
theorem dX2_look_33 : decode cX2_look 33 = .ok (.aload_n 0, 1) := by decide +kernel
theorem dX2_look_34 : decode cX2_look 34 = .ok (.getfield 38, 3) := by decide +kernel
theorem dX2_look_37 : decode cX2_look 37 = .ok (.iload_n 1, 1) := by decide +kernel
theorem dX2_look_38 : decode cX2_look 38 = .ok (.invokevirtual 88, 3) := by decide +kernel
theorem dX2_look_41 : decode cX2_look 41 = .ok (.tableswitch 85 1 6 #[41, 43, 64, 85, 85, 39], 39) := by decide +kernel
theorem dX2_look_80 : decode cX2_look 80 = .ok (.iconst 0, 1) := by decide +kernel
theorem dX2_look_81 : decode cX2_look 81 = .ok (.ireturn, 1) := by decide +kernel
theorem dX2_look_82 : decode cX2_look 82 = .ok (.iconst 1, 1) := by decide +kernel
theorem dX2_look_83 : decode cX2_look 83 = .ok (.ireturn, 1) := by decide +kernel
theorem dX2_look_84 : decode cX2_look 84 = .ok (.iload_n 3, 1) := by decide +kernel
theorem dX2_look_85 : decode cX2_look 85 = .ok (.aload_n 0, 1) := by decide +kernel
theorem dX2_look_86 : decode cX2_look 86 = .ok (.getfield 34, 3) := by decide +kernel
theorem dX2_look_89 : decode cX2_look 89 = .ok (.iload_n 2, 1) := by decide +kernel
theorem dX2_look_90 : decode cX2_look 90 = .ok (.invokevirtual 107, 3) := by decide +kernel
theorem dX2_look_93 : decode cX2_look 93 = .ok (.if_icmp .lt 7, 3) := by decide +kernel
theorem dX2_look_96 : decode cX2_look 96 = .ok (.iconst 2, 1) := by decide +kernel
theorem dX2_look_97 : decode cX2_look 97 = .ok (.goto 7, 3) := by decide +kernel
theorem dX2_look_100 : decode cX2_look 100 = .ok (.aload_n 0, 1) := by decide +kernel
theorem dX2_look_101 : decode cX2_look 101 = .ok (.invokevirtual 110, 3) := by decide +kernel
theorem dX2_look_104 : decode cX2_look 104 = .ok (.ireturn, 1) := by decide +kernel
theorem dX2_look_105 : decode cX2_look 105 = .ok (.iload_n 3, 1) := by decide +kernel
theorem dX2_look_106 : decode cX2_look 106 = .ok (.iload_n 2, 1) := by decide +kernel
theorem dX2_look_107 : decode cX2_look 107 = .ok (.invokestatic 113, 3) := by decide +kernel
theorem dX2_look_110 : decode cX2_look 110 = .ok (.if_icmp .lt 11, 3) := by decide +kernel
theorem dX2_look_113 : decode cX2_look 113 = .ok (.aload_n 0, 1) := by decide +kernel
theorem dX2_look_114 : decode cX2_look 114 = .ok (.iload_n 2, 1) := by decide +kernel
theorem dX2_look_115 : decode cX2_look 115 = .ok (.invokevirtual 116, 3) := by decide +kernel
theorem dX2_look_118 : decode cX2_look 118 = .ok (.goto 7, 3) := by decide +kernel
theorem dX2_look_121 : decode cX2_look 121 = .ok (.aload_n 0, 1) := by decide +kernel
theorem dX2_look_122 : decode cX2_look 122 = .ok (.invokevirtual 110, 3) := by decide +kernel
theorem dX2_look_125 : decode cX2_look 125 = .ok (.ireturn, 1) := by decide +kernel
theorem dX2_look_126 : decode cX2_look 126 = .ok (.iload_n 3, 1) := by decide +kernel
theorem dX2_look_127 : decode cX2_look 127 = .ok (.ifCond .ne 10, 3) := by decide +kernel
theorem dX2_look_130 : decode cX2_look 130 = .ok (.aload_n 0, 1) := by decide +kernel
theorem dX2_look_131 : decode cX2_look 131 = .ok (.invokevirtual 110, 3) := by decide +kernel
theorem dX2_look_134 : decode cX2_look 134 = .ok (.goto 8, 3) := by decide +kernel
theorem dX2_look_137 : decode cX2_look 137 = .ok (.aload_n 0, 1) := by decide +kernel
theorem dX2_look_138 : decode cX2_look 138 = .ok (.iconst 1, 1) := by decide +kernel
theorem dX2_look_139 : decode cX2_look 139 = .ok (.invokevirtual 119, 3) := by decide +kernel
theorem dX2_look_142 : decode cX2_look 142 = .ok (.ireturn, 1) := by decide +kernel
theorem dX2_valueOnTop_0 : decode cX2_valueOnTop 0 = .ok (.aload_n 0, 1) := by decide +kernel
theorem dX2_valueOnTop_1 : decode cX2_valueOnTop 1 = .ok (.getfield 42, 3) := by decide +kernel
theorem dX2_valueOnTop_4 : decode cX2_valueOnTop 4 = .ok (.invokevirtual 122, 3) := by decide +kernel
theorem dX2_valueOnTop_7 : decode cX2_valueOnTop 7 = .ok (.ifCond .le 7, 3) := by decide +kernel
theorem dX2_valueOnTop_10 : decode cX2_valueOnTop 10 = .ok (.iconst 5, 1) := by decide +kernel
theorem dX2_valueOnTop_11 : decode cX2_valueOnTop 11 = .ok (.goto 5, 3) := by decide +kernel
theorem dX2_valueOnTop_14 : decode cX2_valueOnTop 14 = .ok (.bipush 6, 2) := by decide +kernel
theorem dX2_valueOnTop_16 : decode cX2_valueOnTop 16 = .ok (.ireturn, 1) := by decide +kernel
theorem dX2_failing_0 : decode cX2_failing 0 = .ok (.aload_n 0, 1) := by decide +kernel
theorem dX2_failing_1 : decode cX2_failing 1 = .ok (.iload_n 1, 1) := by decide +kernel
theorem dX2_failing_2 : decode cX2_failing 2 = .ok (.putfield 22, 3) := by decide +kernel
theorem dX2_failing_5 : decode cX2_failing 5 = .ok (.bipush 7, 2) := by decide +kernel
theorem dX2_failing_7 : decode cX2_failing 7 = .ok (.ireturn, 1) := by decide +kernel
theorem dX2_lookAtThings_0 : decode cX2_lookAtThings 0 = .ok (.iload_n 1, 1) := by decide +kernel
theorem dX2_lookAtThings_1 : decode cX2_lookAtThings 1 = .ok (.invokestatic 125, 3) := by decide +kernel
theorem dX2_lookAtThings_4 : decode cX2_lookAtThings 4 = .ok (.istore_n 2, 1) := by decide +kernel
theorem dX2_lookAtThings_5 : decode cX2_lookAtThings 5 = .ok (.iconst 1, 1) := by decide +kernel
theorem dX2_lookAtThings_6 : decode cX2_lookAtThings 6 = .ok (.istore_n 3, 1) := by decide +kernel
theorem dX2_lookAtThings_7 : decode cX2_lookAtThings 7 = .ok (.iload_n 3, 1) := by decide +kernel
theorem dX2_lookAtThings_8 : decode cX2_lookAtThings 8 = .ok (.iload_n 2, 1) := by decide +kernel
theorem dX2_lookAtThings_9 : decode cX2_lookAtThings 9 = .ok (.if_icmp .gt 114, 3) := by decide +kernel
theorem dX2_lookAtThings_12 : decode cX2_lookAtThings 12 = .ok (.aload_n 0, 1) := by decide +kernel
theorem dX2_lookAtThings_13 : decode cX2_lookAtThings 13 = .ok (.getfield 38, 3) := by decide +kernel
theorem dX2_lookAtThings_16 : decode cX2_lookAtThings 16 = .ok (.aload_n 0, 1) := by decide +kernel
theorem dX2_lookAtThings_17 : decode cX2_lookAtThings 17 = .ok (.iload_n 3, 1) := by decide +kernel
theorem dX2_lookAtThings_18 : decode cX2_lookAtThings 18 = .ok (.invokevirtual 128, 3) := by decide +kernel
theorem dX2_lookAtThings_21 : decode cX2_lookAtThings 21 = .ok (.invokevirtual 131, 3) := by decide +kernel
theorem dX2_lookAtThings_24 : decode cX2_lookAtThings 24 = .ok (.istore 4, 2) := by decide +kernel
theorem dX2_lookAtThings_26 : decode cX2_lookAtThings 26 = .ok (.iload 4, 2) := by decide +kernel
theorem dX2_lookAtThings_28 : decode cX2_lookAtThings 28 = .ok (.iconst (-1), 1) := by decide +kernel
theorem dX2_lookAtThings_29 : decode cX2_lookAtThings 29 = .ok (.if_icmp .ne 9, 3) := by decide +kernel
theorem dX2_lookAtThings_32 : decode cX2_lookAtThings 32 = .ok (.aload_n 0, 1) := by decide +kernel
theorem dX2_lookAtThings_33 : decode cX2_lookAtThings 33 = .ok (.iconst 5, 1) := by decide +kernel
theorem dX2_lookAtThings_34 : decode cX2_lookAtThings 34 = .ok (.invokevirtual 119, 3) := by decide +kernel
theorem dX2_lookAtThings_37 : decode cX2_lookAtThings 37 = .ok (.ireturn, 1) := by decide +kernel
theorem dX2_lookAtThings_38 : decode cX2_lookAtThings 38 = .ok (.aload_n 0, 1) := by decide +kernel
theorem dX2_lookAtThings_39 : decode cX2_lookAtThings 39 = .ok (.iload 4, 2) := by decide +kernel
theorem dX2_lookAtThings_41 : decode cX2_lookAtThings 41 = .ok (.invokevirtual 134, 3) := by decide +kernel
theorem dX2_lookAtThings_44 : decode cX2_lookAtThings 44 = .ok (.ifCond .ne 31, 3) := by decide +kernel
theorem dX2_lookAtThings_47 : decode cX2_lookAtThings 47 = .ok (.aload_n 0, 1) := by decide +kernel
theorem dX2_lookAtThings_48 : decode cX2_lookAtThings 48 = .ok (.iload 4, 2) := by decide +kernel
theorem dX2_lookAtThings_50 : decode cX2_lookAtThings 50 = .ok (.putfield 25, 3) := by decide +kernel
theorem dX2_lookAtThings_53 : decode cX2_lookAtThings 53 = .ok (.aload_n 0, 1) := by decide +kernel
theorem dX2_lookAtThings_54 : decode cX2_lookAtThings 54 = .ok (.getfield 42, 3) := by decide +kernel
theorem dX2_lookAtThings_57 : decode cX2_lookAtThings 57 = .ok (.iload 4, 2) := by decide +kernel
theorem dX2_lookAtThings_59 : decode cX2_lookAtThings 59 = .ok (.invokevirtual 137, 3) := by decide +kernel
theorem dX2_lookAtThings_62 : decode cX2_lookAtThings 62 = .ok (.ifCond .eq 11, 3) := by decide +kernel
theorem dX2_lookAtThings_65 : decode cX2_lookAtThings 65 = .ok (.aload_n 0, 1) := by decide +kernel
theorem dX2_lookAtThings_66 : decode cX2_lookAtThings 66 = .ok (.iconst 5, 1) := by decide +kernel
theorem dX2_lookAtThings_67 : decode cX2_lookAtThings 67 = .ok (.invokevirtual 119, 3) := by decide +kernel
theorem dX2_lookAtThings_70 : decode cX2_lookAtThings 70 = .ok (.goto 4, 3) := by decide +kernel
theorem dX2_lookAtThings_73 : decode cX2_lookAtThings 73 = .ok (.iconst 3, 1) := by decide +kernel
theorem dX2_lookAtThings_74 : decode cX2_lookAtThings 74 = .ok (.ireturn, 1) := by decide +kernel
theorem dX2_lookAtThings_75 : decode cX2_lookAtThings 75 = .ok (.iload_n 1, 1) := by decide +kernel
theorem dX2_lookAtThings_76 : decode cX2_lookAtThings 76 = .ok (.aload_n 0, 1) := by decide +kernel
theorem dX2_lookAtThings_77 : decode cX2_lookAtThings 77 = .ok (.getfield 38, 3) := by decide +kernel
theorem dX2_lookAtThings_80 : decode cX2_lookAtThings 80 = .ok (.iload 4, 2) := by decide +kernel
theorem dX2_lookAtThings_82 : decode cX2_lookAtThings 82 = .ok (.invokevirtual 88, 3) := by decide +kernel
theorem dX2_lookAtThings_85 : decode cX2_lookAtThings 85 = .ok (.invokestatic 140, 3) := by decide +kernel
theorem dX2_lookAtThings_88 : decode cX2_lookAtThings 88 = .ok (.ifCond .ne 9, 3) := by decide +kernel
theorem dX2_lookAtThings_91 : decode cX2_lookAtThings 91 = .ok (.aload_n 0, 1) := by decide +kernel
theorem dX2_lookAtThings_92 : decode cX2_lookAtThings 92 = .ok (.iconst 2, 1) := by decide +kernel
theorem dX2_lookAtThings_93 : decode cX2_lookAtThings 93 = .ok (.invokevirtual 119, 3) := by decide +kernel
theorem dX2_lookAtThings_96 : decode cX2_lookAtThings 96 = .ok (.ireturn, 1) := by decide +kernel
theorem dX2_lookAtThings_97 : decode cX2_lookAtThings 97 = .ok (.iload_n 3, 1) := by decide +kernel
theorem dX2_lookAtThings_98 : decode cX2_lookAtThings 98 = .ok (.iconst 1, 1) := by decide +kernel
theorem dX2_lookAtThings_99 : decode cX2_lookAtThings 99 = .ok (.if_icmp .ne 12, 3) := by decide +kernel
theorem dX2_lookAtThings_102 : decode cX2_lookAtThings 102 = .ok (.aload_n 0, 1) := by decide +kernel
theorem dX2_lookAtThings_103 : decode cX2_lookAtThings 103 = .ok (.iload 4, 2) := by decide +kernel
theorem dX2_lookAtThings_105 : decode cX2_lookAtThings 105 = .ok (.putfield 28, 3) := by decide +kernel
theorem dX2_lookAtThings_108 : decode cX2_lookAtThings 108 = .ok (.goto 9, 3) := by decide +kernel
theorem dX2_lookAtThings_111 : decode cX2_lookAtThings 111 = .ok (.aload_n 0, 1) := by decide +kernel
theorem dX2_lookAtThings_112 : decode cX2_lookAtThings 112 = .ok (.iload 4, 2) := by decide +kernel
theorem dX2_lookAtThings_114 : decode cX2_lookAtThings 114 = .ok (.putfield 31, 3) := by decide +kernel
theorem dX2_lookAtThings_117 : decode cX2_lookAtThings 117 = .ok (.iinc 3 1, 3) := by decide +kernel
theorem dX2_lookAtThings_120 : decode cX2_lookAtThings 120 = .ok (.goto (-113), 3) := by decide +kernel
theorem dX2_lookAtThings_123 : decode cX2_lookAtThings 123 = .ok (.aload_n 0, 1) := by decide +kernel
theorem dX2_lookAtThings_124 : decode cX2_lookAtThings 124 = .ok (.iload_n 1, 1) := by decide +kernel
theorem dX2_lookAtThings_125 : decode cX2_lookAtThings 125 = .ok (.invokevirtual 144, 3) := by decide +kernel
theorem dX2_lookAtThings_128 : decode cX2_lookAtThings 128 = .ok (.ireturn, 1) := by decide +kernel
theorem dX2_lookAtValues_0 : decode cX2_lookAtValues 0 = .ok (.iload_n 1, 1) := by decide +kernel
theorem dX2_lookAtValues_1 : decode cX2_lookAtValues 1 = .ok (.iconst 3, 1) := by decide +kernel
theorem dX2_lookAtValues_2 : decode cX2_lookAtValues 2 = .ok (.if_icmp .ne 23, 3) := by decide +kernel
theorem dX2_lookAtValues_5 : decode cX2_lookAtValues 5 = .ok (.aload_n 0, 1) := by decide +kernel
theorem dX2_lookAtValues_6 : decode cX2_lookAtValues 6 = .ok (.getfield 38, 3) := by decide +kernel
theorem dX2_lookAtValues_9 : decode cX2_lookAtValues 9 = .ok (.aload_n 0, 1) := by decide +kernel
theorem dX2_lookAtValues_10 : decode cX2_lookAtValues 10 = .ok (.getfield 31, 3) := by decide +kernel
theorem dX2_lookAtValues_13 : decode cX2_lookAtValues 13 = .ok (.invokevirtual 91, 3) := by decide +kernel
theorem dX2_lookAtValues_16 : decode cX2_lookAtValues 16 = .ok (.ifCond .ne 9, 3) := by decide +kernel
theorem dX2_lookAtValues_19 : decode cX2_lookAtValues 19 = .ok (.aload_n 0, 1) := by decide +kernel
theorem dX2_lookAtValues_20 : decode cX2_lookAtValues 20 = .ok (.iconst 3, 1) := by decide +kernel
theorem dX2_lookAtValues_21 : decode cX2_lookAtValues 21 = .ok (.invokevirtual 119, 3) := by decide +kernel
theorem dX2_lookAtValues_24 : decode cX2_lookAtValues 24 = .ok (.ireturn, 1) := by decide +kernel
theorem dX2_lookAtValues_25 : decode cX2_lookAtValues 25 = .ok (.iload_n 1, 1) := by decide +kernel
theorem dX2_lookAtValues_26 : decode cX2_lookAtValues 26 = .ok (.bipush 9, 2) := by decide +kernel
theorem dX2_lookAtValues_28 : decode cX2_lookAtValues 28 = .ok (.if_icmp .eq 9, 3) := by decide +kernel
theorem dX2_lookAtValues_31 : decode cX2_lookAtValues 31 = .ok (.iload_n 1, 1) := by decide +kernel
theorem dX2_lookAtValues_32 : decode cX2_lookAtValues 32 = .ok (.bipush 10, 2) := by decide +kernel
theorem dX2_lookAtValues_34 : decode cX2_lookAtValues 34 = .ok (.if_icmp .ne 7, 3) := by decide +kernel
theorem dX2_lookAtValues_37 : decode cX2_lookAtValues 37 = .ok (.iconst 1, 1) := by decide +kernel
theorem dX2_lookAtValues_38 : decode cX2_lookAtValues 38 = .ok (.goto 4, 3) := by decide +kernel
theorem dX2_lookAtValues_41 : decode cX2_lookAtValues 41 = .ok (.iconst 0, 1) := by decide +kernel
theorem dX2_lookAtValues_42 : decode cX2_lookAtValues 42 = .ok (.istore_n 2, 1) := by decide +kernel
theorem dX2_lookAtValues_43 : decode cX2_lookAtValues 43 = .ok (.iload_n 2, 1) := by decide +kernel
theorem dX2_lookAtValues_44 : decode cX2_lookAtValues 44 = .ok (.ifCond .eq 20, 3) := by decide +kernel
theorem dX2_lookAtValues_47 : decode cX2_lookAtValues 47 = .ok (.aload_n 0, 1) := by decide +kernel
theorem dX2_lookAtValues_48 : decode cX2_lookAtValues 48 = .ok (.aload_n 0, 1) := by decide +kernel
theorem dX2_lookAtValues_49 : decode cX2_lookAtValues 49 = .ok (.getfield 28, 3) := by decide +kernel
theorem dX2_lookAtValues_52 : decode cX2_lookAtValues 52 = .ok (.invokevirtual 147, 3) := by decide +kernel
theorem dX2_lookAtValues_55 : decode cX2_lookAtValues 55 = .ok (.ifCond .eq 9, 3) := by decide +kernel
theorem dX2_lookAtValues_58 : decode cX2_lookAtValues 58 = .ok (.aload_n 0, 1) := by decide +kernel
theorem dX2_lookAtValues_59 : decode cX2_lookAtValues 59 = .ok (.iconst 4, 1) := by decide +kernel
theorem dX2_lookAtValues_60 : decode cX2_lookAtValues 60 = .ok (.invokevirtual 119, 3) := by decide +kernel
theorem dX2_lookAtValues_63 : decode cX2_lookAtValues 63 = .ok (.ireturn, 1) := by decide +kernel
theorem dX2_lookAtValues_64 : decode cX2_lookAtValues 64 = .ok (.iconst 4, 1) := by decide +kernel
theorem dX2_lookAtValues_65 : decode cX2_lookAtValues 65 = .ok (.ireturn, 1) := by decide +kernel
theorem dX2_isOfSort_0 : decode cX2_isOfSort 0 = .ok (.iload_n 0, 1) := by decide +kernel
theorem dX2_isOfSort_1 : decode cX2_isOfSort 1 = .ok (.tableswitch 49 9 12 #[33, 33, 33, 31], 31) := by decide +kernel
theorem dX2_isOfSort_32 : decode cX2_isOfSort 32 = .ok (.iconst 1, 1) := by decide +kernel
theorem dX2_isOfSort_33 : decode cX2_isOfSort 33 = .ok (.ireturn, 1) := by decide +kernel
theorem dX2_isOfSort_34 : decode cX2_isOfSort 34 = .ok (.iload_n 1, 1) := by decide +kernel
theorem dX2_isOfSort_35 : decode cX2_isOfSort 35 = .ok (.iconst 4, 1) := by decide +kernel
theorem dX2_isOfSort_36 : decode cX2_isOfSort 36 = .ok (.if_icmp .eq 8, 3) := by decide +kernel
theorem dX2_isOfSort_39 : decode cX2_isOfSort 39 = .ok (.iload_n 1, 1) := by decide +kernel
theorem dX2_isOfSort_40 : decode cX2_isOfSort 40 = .ok (.iconst 5, 1) := by decide +kernel
theorem dX2_isOfSort_41 : decode cX2_isOfSort 41 = .ok (.if_icmp .ne 7, 3) := by decide +kernel
theorem dX2_isOfSort_44 : decode cX2_isOfSort 44 = .ok (.iconst 1, 1) := by decide +kernel
theorem dX2_isOfSort_45 : decode cX2_isOfSort 45 = .ok (.goto 4, 3) := by decide +kernel
theorem dX2_isOfSort_48 : decode cX2_isOfSort 48 = .ok (.iconst 0, 1) := by decide +kernel
theorem dX2_isOfSort_49 : decode cX2_isOfSort 49 = .ok (.ireturn, 1) := by decide +kernel
theorem dX2_isOfSort_50 : decode cX2_isOfSort 50 = .ok (.iload_n 1, 1) := by decide +kernel
theorem dX2_isOfSort_51 : decode cX2_isOfSort 51 = .ok (.ifCond .ne 7, 3) := by decide +kernel
theorem dX2_isOfSort_54 : decode cX2_isOfSort 54 = .ok (.iconst 1, 1) := by decide +kernel
theorem dX2_isOfSort_55 : decode cX2_isOfSort 55 = .ok (.goto 4, 3) := by decide +kernel
theorem dX2_isOfSort_58 : decode cX2_isOfSort 58 = .ok (.iconst 0, 1) := by decide +kernel
theorem dX2_isOfSort_59 : decode cX2_isOfSort 59 = .ok (.ireturn, 1) := by decide +kernel
theorem dX2_isValue_0 : decode cX2_isValue 0 = .ok (.iload_n 1, 1) := by decide +kernel
theorem dX2_isValue_1 : decode cX2_isValue 1 = .ok (.istore_n 2, 1) := by decide +kernel
theorem dX2_isValue_2 : decode cX2_isValue 2 = .ok (.iconst 0, 1) := by decide +kernel
theorem dX2_isValue_3 : decode cX2_isValue 3 = .ok (.istore_n 3, 1) := by decide +kernel
theorem dX2_isValue_4 : decode cX2_isValue 4 = .ok (.iload_n 3, 1) := by decide +kernel
theorem dX2_isValue_5 : decode cX2_isValue 5 = .ok (.bipush 8, 2) := by decide +kernel
theorem dX2_isValue_7 : decode cX2_isValue 7 = .ok (.if_icmp .gt 37, 3) := by decide +kernel
theorem dX2_isValue_10 : decode cX2_isValue 10 = .ok (.aload_n 0, 1) := by decide +kernel
theorem dX2_isValue_11 : decode cX2_isValue 11 = .ok (.getfield 38, 3) := by decide +kernel
theorem dX2_isValue_14 : decode cX2_isValue 14 = .ok (.iload_n 2, 1) := by decide +kernel
theorem dX2_isValue_15 : decode cX2_isValue 15 = .ok (.invokevirtual 88, 3) := by decide +kernel
theorem dX2_isValue_18 : decode cX2_isValue 18 = .ok (.iconst 1, 1) := by decide +kernel
theorem dX2_isValue_19 : decode cX2_isValue 19 = .ok (.if_icmp .ne 25, 3) := by decide +kernel
theorem dX2_isValue_22 : decode cX2_isValue 22 = .ok (.aload_n 0, 1) := by decide +kernel
theorem dX2_isValue_23 : decode cX2_isValue 23 = .ok (.getfield 38, 3) := by decide +kernel
theorem dX2_isValue_26 : decode cX2_isValue 26 = .ok (.aload_n 0, 1) := by decide +kernel
theorem dX2_isValue_27 : decode cX2_isValue 27 = .ok (.getfield 38, 3) := by decide +kernel
theorem dX2_isValue_30 : decode cX2_isValue 30 = .ok (.iload_n 2, 1) := by decide +kernel
theorem dX2_isValue_31 : decode cX2_isValue 31 = .ok (.invokevirtual 91, 3) := by decide +kernel
theorem dX2_isValue_34 : decode cX2_isValue 34 = .ok (.invokevirtual 131, 3) := by decide +kernel
theorem dX2_isValue_37 : decode cX2_isValue 37 = .ok (.istore_n 2, 1) := by decide +kernel
theorem dX2_isValue_38 : decode cX2_isValue 38 = .ok (.iinc 3 1, 3) := by decide +kernel
theorem dX2_isValue_41 : decode cX2_isValue 41 = .ok (.goto (-37), 3) := by decide +kernel
theorem dX2_isValue_44 : decode cX2_isValue 44 = .ok (.aload_n 0, 1) := by decide +kernel
theorem dX2_isValue_45 : decode cX2_isValue 45 = .ok (.getfield 38, 3) := by decide +kernel
theorem dX2_isValue_48 : decode cX2_isValue 48 = .ok (.iload_n 2, 1) := by decide +kernel
theorem dX2_isValue_49 : decode cX2_isValue 49 = .ok (.invokevirtual 88, 3) := by decide +kernel
theorem dX2_isValue_52 : decode cX2_isValue 52 = .ok (.tableswitch 96 0 5 #[86, 96, 40, 65, 86, 86], 40) := by decide +kernel
theorem dX2_isValue_92 : decode cX2_isValue 92 = .ok (.iload_n 3, 1) := by decide +kernel
theorem dX2_isValue_93 : decode cX2_isValue 93 = .ok (.aload_n 0, 1) := by decide +kernel
theorem dX2_isValue_94 : decode cX2_isValue 94 = .ok (.getfield 34, 3) := by decide +kernel
theorem dX2_isValue_97 : decode cX2_isValue 97 = .ok (.aload_n 0, 1) := by decide +kernel
theorem dX2_isValue_98 : decode cX2_isValue 98 = .ok (.getfield 38, 3) := by decide +kernel
theorem dX2_isValue_101 : decode cX2_isValue 101 = .ok (.iload_n 2, 1) := by decide +kernel
theorem dX2_isValue_102 : decode cX2_isValue 102 = .ok (.invokevirtual 91, 3) := by decide +kernel
theorem dX2_isValue_105 : decode cX2_isValue 105 = .ok (.invokevirtual 107, 3) := by decide +kernel
theorem dX2_isValue_108 : decode cX2_isValue 108 = .ok (.if_icmp .ge 7, 3) := by decide +kernel
theorem dX2_isValue_111 : decode cX2_isValue 111 = .ok (.iconst 1, 1) := by decide +kernel
theorem dX2_isValue_112 : decode cX2_isValue 112 = .ok (.goto 4, 3) := by decide +kernel
theorem dX2_isValue_115 : decode cX2_isValue 115 = .ok (.iconst 0, 1) := by decide +kernel
theorem dX2_isValue_116 : decode cX2_isValue 116 = .ok (.ireturn, 1) := by decide +kernel
theorem dX2_isValue_117 : decode cX2_isValue 117 = .ok (.iload_n 3, 1) := by decide +kernel
theorem dX2_isValue_118 : decode cX2_isValue 118 = .ok (.aload_n 0, 1) := by decide +kernel
theorem dX2_isValue_119 : decode cX2_isValue 119 = .ok (.getfield 38, 3) := by decide +kernel
theorem dX2_isValue_122 : decode cX2_isValue 122 = .ok (.iload_n 2, 1) := by decide +kernel
theorem dX2_isValue_123 : decode cX2_isValue 123 = .ok (.invokevirtual 91, 3) := by decide +kernel
theorem dX2_isValue_126 : decode cX2_isValue 126 = .ok (.invokestatic 113, 3) := by decide +kernel
theorem dX2_isValue_129 : decode cX2_isValue 129 = .ok (.if_icmp .ge 7, 3) := by decide +kernel
theorem dX2_isValue_132 : decode cX2_isValue 132 = .ok (.iconst 1, 1) := by decide +kernel
theorem dX2_isValue_133 : decode cX2_isValue 133 = .ok (.goto 4, 3) := by decide +kernel
theorem dX2_isValue_136 : decode cX2_isValue 136 = .ok (.iconst 0, 1) := by decide +kernel
theorem dX2_isValue_137 : decode cX2_isValue 137 = .ok (.ireturn, 1) := by decide +kernel
theorem dX2_isValue_138 : decode cX2_isValue 138 = .ok (.iload_n 3, 1) := by decide +kernel
theorem dX2_isValue_139 : decode cX2_isValue 139 = .ok (.ifCond .ne 7, 3) := by decide +kernel
theorem dX2_isValue_142 : decode cX2_isValue 142 = .ok (.iconst 1, 1) := by decide +kernel
theorem dX2_isValue_143 : decode cX2_isValue 143 = .ok (.goto 4, 3) := by decide +kernel
theorem dX2_isValue_146 : decode cX2_isValue 146 = .ok (.iconst 0, 1) := by decide +kernel
theorem dX2_isValue_147 : decode cX2_isValue 147 = .ok (.ireturn, 1) := by decide +kernel
theorem dX2_isValue_148 : decode cX2_isValue 148 = .ok (.iconst 0, 1) := by decide +kernel
theorem dX2_isValue_149 : decode cX2_isValue 149 = .ok (.ireturn, 1) := by decide +kernel
theorem dX2_secondBelow_0 : decode cX2_secondBelow 0 = .ok (.aload_n 0, 1) := by decide +kernel
theorem dX2_secondBelow_1 : decode cX2_secondBelow 1 = .ok (.getfield 38, 3) := by decide +kernel
theorem dX2_secondBelow_4 : decode cX2_secondBelow 4 = .ok (.aload_n 0, 1) := by decide +kernel
theorem dX2_secondBelow_5 : decode cX2_secondBelow 5 = .ok (.getfield 42, 3) := by decide +kernel
theorem dX2_secondBelow_8 : decode cX2_secondBelow 8 = .ok (.iload_n 1, 1) := by decide +kernel
theorem dX2_secondBelow_9 : decode cX2_secondBelow 9 = .ok (.invokevirtual 84, 3) := by decide +kernel
theorem dX2_secondBelow_12 : decode cX2_secondBelow 12 = .ok (.invokevirtual 150, 3) := by decide +kernel
theorem dX2_secondBelow_15 : decode cX2_secondBelow 15 = .ok (.ireturn, 1) := by decide +kernel
theorem dX2_needsOf_0 : decode cX2_needsOf 0 = .ok (.iload_n 0, 1) := by decide +kernel
theorem dX2_needsOf_1 : decode cX2_needsOf 1 = .ok (.ifCond .lt 19, 3) := by decide +kernel
theorem dX2_needsOf_4 : decode cX2_needsOf 4 = .ok (.iload_n 0, 1) := by decide +kernel
theorem dX2_needsOf_5 : decode cX2_needsOf 5 = .ok (.getstatic 153, 3) := by decide +kernel
theorem dX2_needsOf_8 : decode cX2_needsOf 8 = .ok (.arraylength, 1) := by decide +kernel
theorem dX2_needsOf_9 : decode cX2_needsOf 9 = .ok (.if_icmp .ge 11, 3) := by decide +kernel
theorem dX2_needsOf_12 : decode cX2_needsOf 12 = .ok (.getstatic 153, 3) := by decide +kernel
theorem dX2_needsOf_15 : decode cX2_needsOf 15 = .ok (.iload_n 0, 1) := by decide +kernel
theorem dX2_needsOf_16 : decode cX2_needsOf 16 = .ok (.iaload, 1) := by decide +kernel
theorem dX2_needsOf_17 : decode cX2_needsOf 17 = .ok (.goto 4, 3) := by decide +kernel
theorem dX2_needsOf_20 : decode cX2_needsOf 20 = .ok (.iconst 0, 1) := by decide +kernel
theorem dX2_needsOf_21 : decode cX2_needsOf 21 = .ok (.ireturn, 1) := by decide +kernel
theorem dX2_wantsOf_0 : decode cX2_wantsOf 0 = .ok (.iload_n 0, 1) := by decide +kernel
theorem dX2_wantsOf_1 : decode cX2_wantsOf 1 = .ok (.ifCond .lt 19, 3) := by decide +kernel
theorem dX2_wantsOf_4 : decode cX2_wantsOf 4 = .ok (.iload_n 0, 1) := by decide +kernel
theorem dX2_wantsOf_5 : decode cX2_wantsOf 5 = .ok (.getstatic 156, 3) := by decide +kernel
theorem dX2_wantsOf_8 : decode cX2_wantsOf 8 = .ok (.arraylength, 1) := by decide +kernel
theorem dX2_wantsOf_9 : decode cX2_wantsOf 9 = .ok (.if_icmp .ge 11, 3) := by decide +kernel
theorem dX2_wantsOf_12 : decode cX2_wantsOf 12 = .ok (.getstatic 156, 3) := by decide +kernel
theorem dX2_wantsOf_15 : decode cX2_wantsOf 15 = .ok (.iload_n 0, 1) := by decide +kernel
theorem dX2_wantsOf_16 : decode cX2_wantsOf 16 = .ok (.iaload, 1) := by decide +kernel
theorem dX2_wantsOf_17 : decode cX2_wantsOf 17 = .ok (.goto 4, 3) := by decide +kernel
theorem dX2_wantsOf_20 : decode cX2_wantsOf 20 = .ok (.iconst 0, 1) := by decide +kernel
theorem dX2_wantsOf_21 : decode cX2_wantsOf 21 = .ok (.ireturn, 1) := by decide +kernel
theorem dX2_hasRoomFor_0 : decode cX2_hasRoomFor 0 = .ok (.iload_n 1, 1) := by decide +kernel
theorem dX2_hasRoomFor_1 : decode cX2_hasRoomFor 1 = .ok (.tableswitch 65 1 3 #[27, 35, 27], 27) := by decide +kernel
theorem dX2_hasRoomFor_28 : decode cX2_hasRoomFor 28 = .ok (.aload_n 0, 1) := by decide +kernel
theorem dX2_hasRoomFor_29 : decode cX2_hasRoomFor 29 = .ok (.getfield 42, 3) := by decide +kernel
theorem dX2_hasRoomFor_32 : decode cX2_hasRoomFor 32 = .ok (.invokevirtual 159, 3) := by decide +kernel
theorem dX2_hasRoomFor_35 : decode cX2_hasRoomFor 35 = .ok (.ireturn, 1) := by decide +kernel
theorem dX2_hasRoomFor_36 : decode cX2_hasRoomFor 36 = .ok (.aload_n 0, 1) := by decide +kernel
theorem dX2_hasRoomFor_37 : decode cX2_hasRoomFor 37 = .ok (.getfield 38, 3) := by decide +kernel
theorem dX2_hasRoomFor_40 : decode cX2_hasRoomFor 40 = .ok (.aload_n 0, 1) := by decide +kernel
theorem dX2_hasRoomFor_41 : decode cX2_hasRoomFor 41 = .ok (.getfield 34, 3) := by decide +kernel
theorem dX2_hasRoomFor_44 : decode cX2_hasRoomFor 44 = .ok (.aload_n 0, 1) := by decide +kernel
theorem dX2_hasRoomFor_45 : decode cX2_hasRoomFor 45 = .ok (.getfield 38, 3) := by decide +kernel
theorem dX2_hasRoomFor_48 : decode cX2_hasRoomFor 48 = .ok (.aload_n 0, 1) := by decide +kernel
theorem dX2_hasRoomFor_49 : decode cX2_hasRoomFor 49 = .ok (.getfield 42, 3) := by decide +kernel
theorem dX2_hasRoomFor_52 : decode cX2_hasRoomFor 52 = .ok (.iconst 0, 1) := by decide +kernel
theorem dX2_hasRoomFor_53 : decode cX2_hasRoomFor 53 = .ok (.invokevirtual 84, 3) := by decide +kernel
theorem dX2_hasRoomFor_56 : decode cX2_hasRoomFor 56 = .ok (.invokevirtual 91, 3) := by decide +kernel
theorem dX2_hasRoomFor_59 : decode cX2_hasRoomFor 59 = .ok (.invokevirtual 163, 3) := by decide +kernel
theorem dX2_hasRoomFor_62 : decode cX2_hasRoomFor 62 = .ok (.invokevirtual 166, 3) := by decide +kernel
theorem dX2_hasRoomFor_65 : decode cX2_hasRoomFor 65 = .ok (.ireturn, 1) := by decide +kernel
theorem dX2_hasRoomFor_66 : decode cX2_hasRoomFor 66 = .ok (.iconst 1, 1) := by decide +kernel
theorem dX2_hasRoomFor_67 : decode cX2_hasRoomFor 67 = .ok (.ireturn, 1) := by decide +kernel
theorem dX2_perform_0 : decode cX2_perform 0 = .ok (.aload_n 0, 1) := by decide +kernel
theorem dX2_perform_1 : decode cX2_perform 1 = .ok (.getfield 42, 3) := by decide +kernel
theorem dX2_perform_4 : decode cX2_perform 4 = .ok (.iconst 0, 1) := by decide +kernel
theorem dX2_perform_5 : decode cX2_perform 5 = .ok (.invokevirtual 84, 3) := by decide +kernel
theorem dX2_perform_8 : decode cX2_perform 8 = .ok (.istore_n 2, 1) := by decide +kernel
theorem dX2_perform_9 : decode cX2_perform 9 = .ok (.aload_n 0, 1) := by decide +kernel
theorem dX2_perform_10 : decode cX2_perform 10 = .ok (.getfield 38, 3) := by decide +kernel
theorem dX2_perform_13 : decode cX2_perform 13 = .ok (.iload_n 2, 1) := by decide +kernel
theorem dX2_perform_14 : decode cX2_perform 14 = .ok (.invokevirtual 91, 3) := by decide +kernel
theorem dX2_perform_17 : decode cX2_perform 17 = .ok (.istore_n 3, 1) := by decide +kernel
theorem dX2_perform_18 : decode cX2_perform 18 = .ok (.iload_n 1, 1) := by decide +kernel
theorem dX2_perform_19 : decode cX2_perform 19 = .ok (.tableswitch 104 0 4 #[33, 52, 63, 71, 85], 33) := by decide +kernel
theorem dX2_perform_52 : decode cX2_perform 52 = .ok (.aload_n 0, 1) := by decide +kernel
theorem dX2_perform_53 : decode cX2_perform 53 = .ok (.getfield 42, 3) := by decide +kernel
theorem dX2_perform_56 : decode cX2_perform 56 = .ok (.iconst 1, 1) := by decide +kernel
theorem dX2_perform_57 : decode cX2_perform 57 = .ok (.invokevirtual 168, 3) := by decide +kernel
theorem dX2_perform_60 : decode cX2_perform 60 = .ok (.aload_n 0, 1) := by decide +kernel
theorem dX2_perform_61 : decode cX2_perform 61 = .ok (.getfield 42, 3) := by decide +kernel
theorem dX2_perform_64 : decode cX2_perform 64 = .ok (.iload_n 3, 1) := by decide +kernel
theorem dX2_perform_65 : decode cX2_perform 65 = .ok (.invokevirtual 171, 3) := by decide +kernel
theorem dX2_perform_68 : decode cX2_perform 68 = .ok (.goto 62, 3) := by decide +kernel
theorem dX2_perform_71 : decode cX2_perform 71 = .ok (.aload_n 0, 1) := by decide +kernel
theorem dX2_perform_72 : decode cX2_perform 72 = .ok (.getfield 42, 3) := by decide +kernel
theorem dX2_perform_75 : decode cX2_perform 75 = .ok (.iload_n 3, 1) := by decide +kernel
theorem dX2_perform_76 : decode cX2_perform 76 = .ok (.invokevirtual 171, 3) := by decide +kernel
theorem dX2_perform_79 : decode cX2_perform 79 = .ok (.goto 51, 3) := by decide +kernel
theorem dX2_perform_82 : decode cX2_perform 82 = .ok (.aload_n 0, 1) := by decide +kernel
theorem dX2_perform_83 : decode cX2_perform 83 = .ok (.iload_n 3, 1) := by decide +kernel
theorem dX2_perform_84 : decode cX2_perform 84 = .ok (.invokevirtual 174, 3) := by decide +kernel
theorem dX2_perform_87 : decode cX2_perform 87 = .ok (.goto 43, 3) := by decide +kernel
theorem dX2_perform_90 : decode cX2_perform 90 = .ok (.aload_n 0, 1) := by decide +kernel
theorem dX2_perform_91 : decode cX2_perform 91 = .ok (.getfield 42, 3) := by decide +kernel
theorem dX2_perform_94 : decode cX2_perform 94 = .ok (.aload_n 0, 1) := by decide +kernel
theorem dX2_perform_95 : decode cX2_perform 95 = .ok (.getfield 25, 3) := by decide +kernel
theorem dX2_perform_98 : decode cX2_perform 98 = .ok (.invokevirtual 177, 3) := by decide +kernel
theorem dX2_perform_101 : decode cX2_perform 101 = .ok (.goto 29, 3) := by decide +kernel
theorem dX2_perform_104 : decode cX2_perform 104 = .ok (.aload_n 0, 1) := by decide +kernel
theorem dX2_perform_105 : decode cX2_perform 105 = .ok (.iload_n 3, 1) := by decide +kernel
theorem dX2_perform_106 : decode cX2_perform 106 = .ok (.aload_n 0, 1) := by decide +kernel
theorem dX2_perform_107 : decode cX2_perform 107 = .ok (.getfield 42, 3) := by decide +kernel
theorem dX2_perform_110 : decode cX2_perform 110 = .ok (.iload_n 3, 1) := by decide +kernel
theorem dX2_perform_111 : decode cX2_perform 111 = .ok (.invokestatic 113, 3) := by decide +kernel
theorem dX2_perform_114 : decode cX2_perform 114 = .ok (.invokevirtual 84, 3) := by decide +kernel
theorem dX2_perform_117 : decode cX2_perform 117 = .ok (.invokevirtual 180, 3) := by decide +kernel
theorem dX2_perform_120 : decode cX2_perform 120 = .ok (.goto 10, 3) := by decide +kernel
theorem dX2_perform_123 : decode cX2_perform 123 = .ok (.aload_n 0, 1) := by decide +kernel
theorem dX2_perform_124 : decode cX2_perform 124 = .ok (.getfield 42, 3) := by decide +kernel
theorem dX2_perform_127 : decode cX2_perform 127 = .ok (.invokevirtual 184, 3) := by decide +kernel
theorem dX2_perform_130 : decode cX2_perform 130 = .ok (.return_, 1) := by decide +kernel
theorem dX2_makeFunction_0 : decode cX2_makeFunction 0 = .ok (.aload_n 0, 1) := by decide +kernel
theorem dX2_makeFunction_1 : decode cX2_makeFunction 1 = .ok (.getfield 34, 3) := by decide +kernel
theorem dX2_makeFunction_4 : decode cX2_makeFunction 4 = .ok (.iload_n 1, 1) := by decide +kernel
theorem dX2_makeFunction_5 : decode cX2_makeFunction 5 = .ok (.invokevirtual 107, 3) := by decide +kernel
theorem dX2_makeFunction_8 : decode cX2_makeFunction 8 = .ok (.istore_n 2, 1) := by decide +kernel
theorem dX2_makeFunction_9 : decode cX2_makeFunction 9 = .ok (.iconst 1, 1) := by decide +kernel
theorem dX2_makeFunction_10 : decode cX2_makeFunction 10 = .ok (.istore_n 3, 1) := by decide +kernel
theorem dX2_makeFunction_11 : decode cX2_makeFunction 11 = .ok (.iload_n 3, 1) := by decide +kernel
theorem dX2_makeFunction_12 : decode cX2_makeFunction 12 = .ok (.iload_n 2, 1) := by decide +kernel
theorem dX2_makeFunction_13 : decode cX2_makeFunction 13 = .ok (.if_icmp .gt 24, 3) := by decide +kernel
theorem dX2_makeFunction_16 : decode cX2_makeFunction 16 = .ok (.aload_n 0, 1) := by decide +kernel
theorem dX2_makeFunction_17 : decode cX2_makeFunction 17 = .ok (.getfield 51, 3) := by decide +kernel
theorem dX2_makeFunction_20 : decode cX2_makeFunction 20 = .ok (.iload_n 3, 1) := by decide +kernel
theorem dX2_makeFunction_21 : decode cX2_makeFunction 21 = .ok (.iconst 1, 1) := by decide +kernel
theorem dX2_makeFunction_22 : decode cX2_makeFunction 22 = .ok (.isub, 1) := by decide +kernel
theorem dX2_makeFunction_23 : decode cX2_makeFunction 23 = .ok (.aload_n 0, 1) := by decide +kernel
theorem dX2_makeFunction_24 : decode cX2_makeFunction 24 = .ok (.iload_n 3, 1) := by decide +kernel
theorem dX2_makeFunction_25 : decode cX2_makeFunction 25 = .ok (.invokevirtual 128, 3) := by decide +kernel
theorem dX2_makeFunction_28 : decode cX2_makeFunction 28 = .ok (.invokevirtual 187, 3) := by decide +kernel
theorem dX2_makeFunction_31 : decode cX2_makeFunction 31 = .ok (.iinc 3 1, 3) := by decide +kernel
theorem dX2_makeFunction_34 : decode cX2_makeFunction 34 = .ok (.goto (-23), 3) := by decide +kernel
theorem dX2_makeFunction_37 : decode cX2_makeFunction 37 = .ok (.aload_n 0, 1) := by decide +kernel
theorem dX2_makeFunction_38 : decode cX2_makeFunction 38 = .ok (.getfield 42, 3) := by decide +kernel
theorem dX2_makeFunction_41 : decode cX2_makeFunction 41 = .ok (.iload_n 2, 1) := by decide +kernel
theorem dX2_makeFunction_42 : decode cX2_makeFunction 42 = .ok (.invokevirtual 84, 3) := by decide +kernel
theorem dX2_makeFunction_45 : decode cX2_makeFunction 45 = .ok (.istore_n 3, 1) := by decide +kernel
theorem dX2_makeFunction_46 : decode cX2_makeFunction 46 = .ok (.aload_n 0, 1) := by decide +kernel
theorem dX2_makeFunction_47 : decode cX2_makeFunction 47 = .ok (.getfield 51, 3) := by decide +kernel
theorem dX2_makeFunction_50 : decode cX2_makeFunction 50 = .ok (.iload_n 1, 1) := by decide +kernel
theorem dX2_makeFunction_51 : decode cX2_makeFunction 51 = .ok (.invokevirtual 190, 3) := by decide +kernel
theorem dX2_makeFunction_54 : decode cX2_makeFunction 54 = .ok (.istore 4, 2) := by decide +kernel
theorem dX2_makeFunction_56 : decode cX2_makeFunction 56 = .ok (.aload_n 0, 1) := by decide +kernel
theorem dX2_makeFunction_57 : decode cX2_makeFunction 57 = .ok (.getfield 38, 3) := by decide +kernel
theorem dX2_makeFunction_60 : decode cX2_makeFunction 60 = .ok (.iload_n 3, 1) := by decide +kernel
theorem dX2_makeFunction_61 : decode cX2_makeFunction 61 = .ok (.bipush 6, 2) := by decide +kernel
theorem dX2_makeFunction_63 : decode cX2_makeFunction 63 = .ok (.iload 4, 2) := by decide +kernel
theorem dX2_makeFunction_65 : decode cX2_makeFunction 65 = .ok (.bipush (-3), 2) := by decide +kernel
theorem dX2_makeFunction_67 : decode cX2_makeFunction 67 = .ok (.invokevirtual 193, 3) := by decide +kernel
theorem dX2_makeFunction_70 : decode cX2_makeFunction 70 = .ok (.aload_n 0, 1) := by decide +kernel
theorem dX2_makeFunction_71 : decode cX2_makeFunction 71 = .ok (.getfield 42, 3) := by decide +kernel
theorem dX2_makeFunction_74 : decode cX2_makeFunction 74 = .ok (.iload_n 2, 1) := by decide +kernel
theorem dX2_makeFunction_75 : decode cX2_makeFunction 75 = .ok (.iconst 1, 1) := by decide +kernel
theorem dX2_makeFunction_76 : decode cX2_makeFunction 76 = .ok (.iadd, 1) := by decide +kernel
theorem dX2_makeFunction_77 : decode cX2_makeFunction 77 = .ok (.invokevirtual 168, 3) := by decide +kernel
theorem dX2_makeFunction_80 : decode cX2_makeFunction 80 = .ok (.aload_n 0, 1) := by decide +kernel
theorem dX2_makeFunction_81 : decode cX2_makeFunction 81 = .ok (.getfield 42, 3) := by decide +kernel
theorem dX2_makeFunction_84 : decode cX2_makeFunction 84 = .ok (.iload 4, 2) := by decide +kernel
theorem dX2_makeFunction_86 : decode cX2_makeFunction 86 = .ok (.invokevirtual 171, 3) := by decide +kernel
theorem dX2_makeFunction_89 : decode cX2_makeFunction 89 = .ok (.iload_n 1, 1) := by decide +kernel
theorem dX2_makeFunction_90 : decode cX2_makeFunction 90 = .ok (.ifCond .lt 36, 3) := by decide +kernel
theorem dX2_makeFunction_93 : decode cX2_makeFunction 93 = .ok (.iload_n 1, 1) := by decide +kernel
theorem dX2_makeFunction_94 : decode cX2_makeFunction 94 = .ok (.bipush 20, 2) := by decide +kernel
theorem dX2_makeFunction_96 : decode cX2_makeFunction 96 = .ok (.if_icmp .ge 30, 3) := by decide +kernel
theorem dX2_makeFunction_99 : decode cX2_makeFunction 99 = .ok (.aload_n 0, 1) := by decide +kernel
theorem dX2_makeFunction_100 : decode cX2_makeFunction 100 = .ok (.getfield 9, 3) := by decide +kernel
theorem dX2_makeFunction_103 : decode cX2_makeFunction 103 = .ok (.iload_n 1, 1) := by decide +kernel
theorem dX2_makeFunction_104 : decode cX2_makeFunction 104 = .ok (.dup2, 1) := by decide +kernel
theorem dX2_makeFunction_105 : decode cX2_makeFunction 105 = .ok (.iaload, 1) := by decide +kernel
theorem dX2_makeFunction_106 : decode cX2_makeFunction 106 = .ok (.iconst 1, 1) := by decide +kernel
theorem dX2_makeFunction_107 : decode cX2_makeFunction 107 = .ok (.iadd, 1) := by decide +kernel
theorem dX2_makeFunction_108 : decode cX2_makeFunction 108 = .ok (.iastore, 1) := by decide +kernel
theorem dX2_makeFunction_109 : decode cX2_makeFunction 109 = .ok (.aload_n 0, 1) := by decide +kernel
theorem dX2_makeFunction_110 : decode cX2_makeFunction 110 = .ok (.getfield 15, 3) := by decide +kernel
theorem dX2_makeFunction_113 : decode cX2_makeFunction 113 = .ok (.iload_n 1, 1) := by decide +kernel
theorem dX2_makeFunction_114 : decode cX2_makeFunction 114 = .ok (.dup2, 1) := by decide +kernel
theorem dX2_makeFunction_115 : decode cX2_makeFunction 115 = .ok (.iaload, 1) := by decide +kernel
theorem dX2_makeFunction_116 : decode cX2_makeFunction 116 = .ok (.aload_n 0, 1) := by decide +kernel
theorem dX2_makeFunction_117 : decode cX2_makeFunction 117 = .ok (.getfield 34, 3) := by decide +kernel
theorem dX2_makeFunction_120 : decode cX2_makeFunction 120 = .ok (.iload_n 1, 1) := by decide +kernel
theorem dX2_makeFunction_121 : decode cX2_makeFunction 121 = .ok (.invokevirtual 163, 3) := by decide +kernel
theorem dX2_makeFunction_124 : decode cX2_makeFunction 124 = .ok (.iadd, 1) := by decide +kernel
theorem dX2_makeFunction_125 : decode cX2_makeFunction 125 = .ok (.iastore, 1) := by decide +kernel
theorem dX2_makeFunction_126 : decode cX2_makeFunction 126 = .ok (.return_, 1) := by decide +kernel
theorem dX2_workOut_0 : decode cX2_workOut 0 = .ok (.aload_n 0, 1) := by decide +kernel
theorem dX2_workOut_1 : decode cX2_workOut 1 = .ok (.getfield 38, 3) := by decide +kernel
theorem dX2_workOut_4 : decode cX2_workOut 4 = .ok (.aload_n 0, 1) := by decide +kernel
theorem dX2_workOut_5 : decode cX2_workOut 5 = .ok (.getfield 28, 3) := by decide +kernel
theorem dX2_workOut_8 : decode cX2_workOut 8 = .ok (.invokevirtual 91, 3) := by decide +kernel
theorem dX2_workOut_11 : decode cX2_workOut 11 = .ok (.istore_n 3, 1) := by decide +kernel
theorem dX2_workOut_12 : decode cX2_workOut 12 = .ok (.iload_n 1, 1) := by decide +kernel
theorem dX2_workOut_13 : decode cX2_workOut 13 = .ok (.tableswitch 185 6 12 #[43, 71, 185, 93, 109, 155, 135], 43) := by decide +kernel
theorem dX2_workOut_56 : decode cX2_workOut 56 = .ok (.aload_n 0, 1) := by decide +kernel
theorem dX2_workOut_57 : decode cX2_workOut 57 = .ok (.getfield 38, 3) := by decide +kernel
theorem dX2_workOut_60 : decode cX2_workOut 60 = .ok (.iload_n 2, 1) := by decide +kernel
theorem dX2_workOut_61 : decode cX2_workOut 61 = .ok (.bipush 6, 2) := by decide +kernel
theorem dX2_workOut_63 : decode cX2_workOut 63 = .ok (.aload_n 0, 1) := by decide +kernel
theorem dX2_workOut_64 : decode cX2_workOut 64 = .ok (.iload_n 3, 1) := by decide +kernel
theorem dX2_workOut_65 : decode cX2_workOut 65 = .ok (.ifCond .eq 7, 3) := by decide +kernel
theorem dX2_workOut_68 : decode cX2_workOut 68 = .ok (.iconst 2, 1) := by decide +kernel
theorem dX2_workOut_69 : decode cX2_workOut 69 = .ok (.goto 4, 3) := by decide +kernel
theorem dX2_workOut_72 : decode cX2_workOut 72 = .ok (.iconst 3, 1) := by decide +kernel
theorem dX2_workOut_73 : decode cX2_workOut 73 = .ok (.invokevirtual 128, 3) := by decide +kernel
theorem dX2_workOut_76 : decode cX2_workOut 76 = .ok (.bipush (-3), 2) := by decide +kernel
theorem dX2_workOut_78 : decode cX2_workOut 78 = .ok (.invokevirtual 193, 3) := by decide +kernel
theorem dX2_workOut_81 : decode cX2_workOut 81 = .ok (.goto 144, 3) := by decide +kernel
theorem dX2_workOut_84 : decode cX2_workOut 84 = .ok (.aload_n 0, 1) := by decide +kernel
theorem dX2_workOut_85 : decode cX2_workOut 85 = .ok (.getfield 38, 3) := by decide +kernel
theorem dX2_workOut_88 : decode cX2_workOut 88 = .ok (.iload_n 2, 1) := by decide +kernel
theorem dX2_workOut_89 : decode cX2_workOut 89 = .ok (.iconst 4, 1) := by decide +kernel
theorem dX2_workOut_90 : decode cX2_workOut 90 = .ok (.aload_n 0, 1) := by decide +kernel
theorem dX2_workOut_91 : decode cX2_workOut 91 = .ok (.iconst 1, 1) := by decide +kernel
theorem dX2_workOut_92 : decode cX2_workOut 92 = .ok (.invokevirtual 128, 3) := by decide +kernel
theorem dX2_workOut_95 : decode cX2_workOut 95 = .ok (.aload_n 0, 1) := by decide +kernel
theorem dX2_workOut_96 : decode cX2_workOut 96 = .ok (.iconst 2, 1) := by decide +kernel
theorem dX2_workOut_97 : decode cX2_workOut 97 = .ok (.invokevirtual 128, 3) := by decide +kernel
theorem dX2_workOut_100 : decode cX2_workOut 100 = .ok (.invokevirtual 193, 3) := by decide +kernel
theorem dX2_workOut_103 : decode cX2_workOut 103 = .ok (.goto 122, 3) := by decide +kernel
theorem dX2_workOut_106 : decode cX2_workOut 106 = .ok (.aload_n 0, 1) := by decide +kernel
theorem dX2_workOut_107 : decode cX2_workOut 107 = .ok (.getfield 38, 3) := by decide +kernel
theorem dX2_workOut_110 : decode cX2_workOut 110 = .ok (.iload_n 2, 1) := by decide +kernel
theorem dX2_workOut_111 : decode cX2_workOut 111 = .ok (.bipush 6, 2) := by decide +kernel
theorem dX2_workOut_113 : decode cX2_workOut 113 = .ok (.iload_n 3, 1) := by decide +kernel
theorem dX2_workOut_114 : decode cX2_workOut 114 = .ok (.bipush (-3), 2) := by decide +kernel
theorem dX2_workOut_116 : decode cX2_workOut 116 = .ok (.invokevirtual 193, 3) := by decide +kernel
theorem dX2_workOut_119 : decode cX2_workOut 119 = .ok (.goto 106, 3) := by decide +kernel
theorem dX2_workOut_122 : decode cX2_workOut 122 = .ok (.aload_n 0, 1) := by decide +kernel
theorem dX2_workOut_123 : decode cX2_workOut 123 = .ok (.getfield 38, 3) := by decide +kernel
theorem dX2_workOut_126 : decode cX2_workOut 126 = .ok (.iload_n 2, 1) := by decide +kernel
theorem dX2_workOut_127 : decode cX2_workOut 127 = .ok (.bipush 6, 2) := by decide +kernel
theorem dX2_workOut_129 : decode cX2_workOut 129 = .ok (.aload_n 0, 1) := by decide +kernel
theorem dX2_workOut_130 : decode cX2_workOut 130 = .ok (.getfield 38, 3) := by decide +kernel
theorem dX2_workOut_133 : decode cX2_workOut 133 = .ok (.aload_n 0, 1) := by decide +kernel
theorem dX2_workOut_134 : decode cX2_workOut 134 = .ok (.getfield 28, 3) := by decide +kernel
theorem dX2_workOut_137 : decode cX2_workOut 137 = .ok (.invokevirtual 150, 3) := by decide +kernel
theorem dX2_workOut_140 : decode cX2_workOut 140 = .ok (.bipush (-3), 2) := by decide +kernel
theorem dX2_workOut_142 : decode cX2_workOut 142 = .ok (.invokevirtual 193, 3) := by decide +kernel
theorem dX2_workOut_145 : decode cX2_workOut 145 = .ok (.goto 80, 3) := by decide +kernel
theorem dX2_workOut_148 : decode cX2_workOut 148 = .ok (.aload_n 0, 1) := by decide +kernel
theorem dX2_workOut_149 : decode cX2_workOut 149 = .ok (.getfield 38, 3) := by decide +kernel
theorem dX2_workOut_152 : decode cX2_workOut 152 = .ok (.iload_n 2, 1) := by decide +kernel
theorem dX2_workOut_153 : decode cX2_workOut 153 = .ok (.bipush 6, 2) := by decide +kernel
theorem dX2_workOut_155 : decode cX2_workOut 155 = .ok (.aload_n 0, 1) := by decide +kernel
theorem dX2_workOut_156 : decode cX2_workOut 156 = .ok (.iconst 2, 1) := by decide +kernel
theorem dX2_workOut_157 : decode cX2_workOut 157 = .ok (.invokevirtual 128, 3) := by decide +kernel
theorem dX2_workOut_160 : decode cX2_workOut 160 = .ok (.bipush (-3), 2) := by decide +kernel
theorem dX2_workOut_162 : decode cX2_workOut 162 = .ok (.invokevirtual 193, 3) := by decide +kernel
theorem dX2_workOut_165 : decode cX2_workOut 165 = .ok (.goto 60, 3) := by decide +kernel
theorem dX2_workOut_168 : decode cX2_workOut 168 = .ok (.aload_n 0, 1) := by decide +kernel
theorem dX2_workOut_169 : decode cX2_workOut 169 = .ok (.getfield 38, 3) := by decide +kernel
theorem dX2_workOut_172 : decode cX2_workOut 172 = .ok (.iload_n 2, 1) := by decide +kernel
theorem dX2_workOut_173 : decode cX2_workOut 173 = .ok (.iconst 0, 1) := by decide +kernel
theorem dX2_workOut_174 : decode cX2_workOut 174 = .ok (.aload_n 0, 1) := by decide +kernel
theorem dX2_workOut_175 : decode cX2_workOut 175 = .ok (.aload_n 0, 1) := by decide +kernel
theorem dX2_workOut_176 : decode cX2_workOut 176 = .ok (.getfield 28, 3) := by decide +kernel
theorem dX2_workOut_179 : decode cX2_workOut 179 = .ok (.invokevirtual 147, 3) := by decide +kernel
theorem dX2_workOut_182 : decode cX2_workOut 182 = .ok (.ifCond .eq 7, 3) := by decide +kernel
theorem dX2_workOut_185 : decode cX2_workOut 185 = .ok (.iconst 1, 1) := by decide +kernel
theorem dX2_workOut_186 : decode cX2_workOut 186 = .ok (.goto 4, 3) := by decide +kernel
theorem dX2_workOut_189 : decode cX2_workOut 189 = .ok (.iconst 0, 1) := by decide +kernel
theorem dX2_workOut_190 : decode cX2_workOut 190 = .ok (.bipush (-3), 2) := by decide +kernel
theorem dX2_workOut_192 : decode cX2_workOut 192 = .ok (.invokevirtual 193, 3) := by decide +kernel
theorem dX2_workOut_195 : decode cX2_workOut 195 = .ok (.goto 30, 3) := by decide +kernel
theorem dX2_workOut_198 : decode cX2_workOut 198 = .ok (.aload_n 0, 1) := by decide +kernel
theorem dX2_workOut_199 : decode cX2_workOut 199 = .ok (.getfield 38, 3) := by decide +kernel
theorem dX2_workOut_202 : decode cX2_workOut 202 = .ok (.iload_n 2, 1) := by decide +kernel
theorem dX2_workOut_203 : decode cX2_workOut 203 = .ok (.iconst 0, 1) := by decide +kernel
theorem dX2_workOut_204 : decode cX2_workOut 204 = .ok (.iload_n 1, 1) := by decide +kernel
theorem dX2_workOut_205 : decode cX2_workOut 205 = .ok (.iload_n 3, 1) := by decide +kernel
theorem dX2_workOut_206 : decode cX2_workOut 206 = .ok (.aload_n 0, 1) := by decide +kernel
theorem dX2_workOut_207 : decode cX2_workOut 207 = .ok (.getfield 38, 3) := by decide +kernel
theorem dX2_workOut_210 : decode cX2_workOut 210 = .ok (.aload_n 0, 1) := by decide +kernel
theorem dX2_workOut_211 : decode cX2_workOut 211 = .ok (.getfield 31, 3) := by decide +kernel
theorem dX2_workOut_214 : decode cX2_workOut 214 = .ok (.invokevirtual 91, 3) := by decide +kernel
theorem dX2_workOut_217 : decode cX2_workOut 217 = .ok (.invokestatic 197, 3) := by decide +kernel
theorem dX2_workOut_220 : decode cX2_workOut 220 = .ok (.bipush (-3), 2) := by decide +kernel
theorem dX2_workOut_222 : decode cX2_workOut 222 = .ok (.invokevirtual 193, 3) := by decide +kernel
theorem dX2_workOut_225 : decode cX2_workOut 225 = .ok (.aload_n 0, 1) := by decide +kernel
theorem dX2_workOut_226 : decode cX2_workOut 226 = .ok (.getfield 42, 3) := by decide +kernel
theorem dX2_workOut_229 : decode cX2_workOut 229 = .ok (.iload_n 1, 1) := by decide +kernel
theorem dX2_workOut_230 : decode cX2_workOut 230 = .ok (.invokestatic 113, 3) := by decide +kernel
theorem dX2_workOut_233 : decode cX2_workOut 233 = .ok (.iconst 1, 1) := by decide +kernel
theorem dX2_workOut_234 : decode cX2_workOut 234 = .ok (.iadd, 1) := by decide +kernel
theorem dX2_workOut_235 : decode cX2_workOut 235 = .ok (.invokevirtual 168, 3) := by decide +kernel
theorem dX2_workOut_238 : decode cX2_workOut 238 = .ok (.aload_n 0, 1) := by decide +kernel
theorem dX2_workOut_239 : decode cX2_workOut 239 = .ok (.getfield 42, 3) := by decide +kernel
theorem dX2_workOut_242 : decode cX2_workOut 242 = .ok (.iload_n 2, 1) := by decide +kernel
theorem dX2_workOut_243 : decode cX2_workOut 243 = .ok (.invokevirtual 171, 3) := by decide +kernel
theorem dX2_workOut_246 : decode cX2_workOut 246 = .ok (.return_, 1) := by decide +kernel
theorem dX2_isNil_0 : decode cX2_isNil 0 = .ok (.aload_n 0, 1) := by decide +kernel
theorem dX2_isNil_1 : decode cX2_isNil 1 = .ok (.getfield 38, 3) := by decide +kernel
theorem dX2_isNil_4 : decode cX2_isNil 4 = .ok (.iload_n 1, 1) := by decide +kernel
theorem dX2_isNil_5 : decode cX2_isNil 5 = .ok (.invokevirtual 88, 3) := by decide +kernel
theorem dX2_isNil_8 : decode cX2_isNil 8 = .ok (.iconst 5, 1) := by decide +kernel
theorem dX2_isNil_9 : decode cX2_isNil 9 = .ok (.if_icmp .ne 7, 3) := by decide +kernel
theorem dX2_isNil_12 : decode cX2_isNil 12 = .ok (.iconst 1, 1) := by decide +kernel
theorem dX2_isNil_13 : decode cX2_isNil 13 = .ok (.goto 4, 3) := by decide +kernel
theorem dX2_isNil_16 : decode cX2_isNil 16 = .ok (.iconst 0, 1) := by decide +kernel
theorem dX2_isNil_17 : decode cX2_isNil 17 = .ok (.ireturn, 1) := by decide +kernel
theorem dX2_calculate_0 : decode cX2_calculate 0 = .ok (.iload_n 0, 1) := by decide +kernel
theorem dX2_calculate_1 : decode cX2_calculate 1 = .ok (.tableswitch 85 0 5 #[39, 43, 47, 51, 63, 74], 39) := by decide +kernel
theorem dX2_calculate_40 : decode cX2_calculate 40 = .ok (.iload_n 1, 1) := by decide +kernel
theorem dX2_calculate_41 : decode cX2_calculate 41 = .ok (.iload_n 2, 1) := by decide +kernel
theorem dX2_calculate_42 : decode cX2_calculate 42 = .ok (.iadd, 1) := by decide +kernel
theorem dX2_calculate_43 : decode cX2_calculate 43 = .ok (.ireturn, 1) := by decide +kernel
theorem dX2_calculate_44 : decode cX2_calculate 44 = .ok (.iload_n 1, 1) := by decide +kernel
theorem dX2_calculate_45 : decode cX2_calculate 45 = .ok (.iload_n 2, 1) := by decide +kernel
theorem dX2_calculate_46 : decode cX2_calculate 46 = .ok (.isub, 1) := by decide +kernel
theorem dX2_calculate_47 : decode cX2_calculate 47 = .ok (.ireturn, 1) := by decide +kernel
theorem dX2_calculate_48 : decode cX2_calculate 48 = .ok (.iload_n 1, 1) := by decide +kernel
theorem dX2_calculate_49 : decode cX2_calculate 49 = .ok (.iload_n 2, 1) := by decide +kernel
theorem dX2_calculate_50 : decode cX2_calculate 50 = .ok (.imul, 1) := by decide +kernel
theorem dX2_calculate_51 : decode cX2_calculate 51 = .ok (.ireturn, 1) := by decide +kernel
theorem dX2_calculate_52 : decode cX2_calculate 52 = .ok (.iload_n 2, 1) := by decide +kernel
theorem dX2_calculate_53 : decode cX2_calculate 53 = .ok (.ifCond .ne 7, 3) := by decide +kernel
theorem dX2_calculate_56 : decode cX2_calculate 56 = .ok (.iconst 0, 1) := by decide +kernel
theorem dX2_calculate_57 : decode cX2_calculate 57 = .ok (.goto 6, 3) := by decide +kernel
theorem dX2_calculate_60 : decode cX2_calculate 60 = .ok (.iload_n 1, 1) := by decide +kernel
theorem dX2_calculate_61 : decode cX2_calculate 61 = .ok (.iload_n 2, 1) := by decide +kernel
theorem dX2_calculate_62 : decode cX2_calculate 62 = .ok (.idiv, 1) := by decide +kernel
theorem dX2_calculate_63 : decode cX2_calculate 63 = .ok (.ireturn, 1) := by decide +kernel
theorem dX2_calculate_64 : decode cX2_calculate 64 = .ok (.iload_n 1, 1) := by decide +kernel
theorem dX2_calculate_65 : decode cX2_calculate 65 = .ok (.iload_n 2, 1) := by decide +kernel
theorem dX2_calculate_66 : decode cX2_calculate 66 = .ok (.if_icmp .ge 7, 3) := by decide +kernel
theorem dX2_calculate_69 : decode cX2_calculate 69 = .ok (.iconst 1, 1) := by decide +kernel
theorem dX2_calculate_70 : decode cX2_calculate 70 = .ok (.goto 4, 3) := by decide +kernel
theorem dX2_calculate_73 : decode cX2_calculate 73 = .ok (.iconst 0, 1) := by decide +kernel
theorem dX2_calculate_74 : decode cX2_calculate 74 = .ok (.ireturn, 1) := by decide +kernel
theorem dX2_calculate_75 : decode cX2_calculate 75 = .ok (.iload_n 1, 1) := by decide +kernel
theorem dX2_calculate_76 : decode cX2_calculate 76 = .ok (.iload_n 2, 1) := by decide +kernel
theorem dX2_calculate_77 : decode cX2_calculate 77 = .ok (.if_icmp .ne 7, 3) := by decide +kernel
theorem dX2_calculate_80 : decode cX2_calculate 80 = .ok (.iconst 1, 1) := by decide +kernel
theorem dX2_calculate_81 : decode cX2_calculate 81 = .ok (.goto 4, 3) := by decide +kernel
theorem dX2_calculate_84 : decode cX2_calculate 84 = .ok (.iconst 0, 1) := by decide +kernel
theorem dX2_calculate_85 : decode cX2_calculate 85 = .ok (.ireturn, 1) := by decide +kernel
theorem dX2_calculate_86 : decode cX2_calculate 86 = .ok (.iconst 0, 1) := by decide +kernel
theorem dX2_calculate_87 : decode cX2_calculate 87 = .ok (.ireturn, 1) := by decide +kernel
theorem dX3_init_0 : decode cX3_init 0 = .ok (.aload_n 0, 1) := by decide +kernel
theorem dX3_init_1 : decode cX3_init 1 = .ok (.invokespecial 3, 3) := by decide +kernel
theorem dX3_init_4 : decode cX3_init 4 = .ok (.aload_n 0, 1) := by decide +kernel
theorem dX3_init_5 : decode cX3_init 5 = .ok (.bipush 8, 2) := by decide +kernel
theorem dX3_init_7 : decode cX3_init 7 = .ok (.newarray .int, 2) := by decide +kernel
theorem dX3_init_9 : decode cX3_init 9 = .ok (.putfield 9, 3) := by decide +kernel
theorem dX3_init_12 : decode cX3_init 12 = .ok (.aload_n 0, 1) := by decide +kernel
theorem dX3_init_13 : decode cX3_init 13 = .ok (.bipush 72, 2) := by decide +kernel
theorem dX3_init_15 : decode cX3_init 15 = .ok (.newarray .int, 2) := by decide +kernel
theorem dX3_init_17 : decode cX3_init 17 = .ok (.putfield 15, 3) := by decide +kernel
theorem dX3_init_20 : decode cX3_init 20 = .ok (.aload_n 0, 1) := by decide +kernel
theorem dX3_init_21 : decode cX3_init 21 = .ok (.sipush 130, 3) := by decide +kernel
theorem dX3_init_24 : decode cX3_init 24 = .ok (.newarray .int, 2) := by decide +kernel
theorem dX3_init_26 : decode cX3_init 26 = .ok (.putfield 18, 3) := by decide +kernel
theorem dX3_init_29 : decode cX3_init 29 = .ok (.aload_n 0, 1) := by decide +kernel
theorem dX3_init_30 : decode cX3_init 30 = .ok (.iconst 0, 1) := by decide +kernel
theorem dX3_init_31 : decode cX3_init 31 = .ok (.putfield 21, 3) := by decide +kernel
theorem dX3_init_34 : decode cX3_init 34 = .ok (.aload_n 0, 1) := by decide +kernel
theorem dX3_init_35 : decode cX3_init 35 = .ok (.aload_n 1, 1) := by decide +kernel
theorem dX3_init_36 : decode cX3_init 36 = .ok (.putfield 25, 3) := by decide +kernel
theorem dX3_init_39 : decode cX3_init 39 = .ok (.aload_n 0, 1) := by decide +kernel
theorem dX3_init_40 : decode cX3_init 40 = .ok (.aload_n 2, 1) := by decide +kernel
theorem dX3_init_41 : decode cX3_init 41 = .ok (.putfield 29, 3) := by decide +kernel
theorem dX3_init_44 : decode cX3_init 44 = .ok (.return_, 1) := by decide +kernel
theorem dX3_give_0 : decode cX3_give 0 = .ok (.iload_n 1, 1) := by decide +kernel
theorem dX3_give_1 : decode cX3_give 1 = .ok (.ifCond .lt 19, 3) := by decide +kernel
theorem dX3_give_4 : decode cX3_give 4 = .ok (.iload_n 1, 1) := by decide +kernel
theorem dX3_give_5 : decode cX3_give 5 = .ok (.aload_n 0, 1) := by decide +kernel
theorem dX3_give_6 : decode cX3_give 6 = .ok (.getfield 9, 3) := by decide +kernel
theorem dX3_give_9 : decode cX3_give 9 = .ok (.arraylength, 1) := by decide +kernel
theorem dX3_give_10 : decode cX3_give 10 = .ok (.if_icmp .ge 10, 3) := by decide +kernel
theorem dX3_give_13 : decode cX3_give 13 = .ok (.aload_n 0, 1) := by decide +kernel
theorem dX3_give_14 : decode cX3_give 14 = .ok (.getfield 9, 3) := by decide +kernel
theorem dX3_give_17 : decode cX3_give 17 = .ok (.iload_n 1, 1) := by decide +kernel
theorem dX3_give_18 : decode cX3_give 18 = .ok (.iload_n 2, 1) := by decide +kernel
theorem dX3_give_19 : decode cX3_give 19 = .ok (.iastore, 1) := by decide +kernel
theorem dX3_give_20 : decode cX3_give 20 = .ok (.return_, 1) := by decide +kernel
theorem dX3_make_0 : decode cX3_make 0 = .ok (.aload_n 0, 1) := by decide +kernel
theorem dX3_make_1 : decode cX3_make 1 = .ok (.iconst 0, 1) := by decide +kernel
theorem dX3_make_2 : decode cX3_make 2 = .ok (.putfield 21, 3) := by decide +kernel
theorem dX3_make_5 : decode cX3_make 5 = .ok (.aload_n 0, 1) := by decide +kernel
theorem dX3_make_6 : decode cX3_make 6 = .ok (.getfield 29, 3) := by decide +kernel
theorem dX3_make_9 : decode cX3_make 9 = .ok (.iload_n 1, 1) := by decide +kernel
theorem dX3_make_10 : decode cX3_make 10 = .ok (.invokevirtual 33, 3) := by decide +kernel
theorem dX3_make_13 : decode cX3_make 13 = .ok (.aload_n 0, 1) := by decide +kernel
theorem dX3_make_14 : decode cX3_make 14 = .ok (.getfield 25, 3) := by decide +kernel
theorem dX3_make_17 : decode cX3_make 17 = .ok (.iload_n 1, 1) := by decide +kernel
theorem dX3_make_18 : decode cX3_make 18 = .ok (.invokevirtual 39, 3) := by decide +kernel
theorem dX3_make_21 : decode cX3_make 21 = .ok (.istore_n 2, 1) := by decide +kernel
theorem dX3_make_22 : decode cX3_make 22 = .ok (.aload_n 0, 1) := by decide +kernel
theorem dX3_make_23 : decode cX3_make 23 = .ok (.getfield 25, 3) := by decide +kernel
theorem dX3_make_26 : decode cX3_make 26 = .ok (.iload_n 1, 1) := by decide +kernel
theorem dX3_make_27 : decode cX3_make 27 = .ok (.invokevirtual 45, 3) := by decide +kernel
theorem dX3_make_30 : decode cX3_make 30 = .ok (.istore_n 3, 1) := by decide +kernel
theorem dX3_make_31 : decode cX3_make 31 = .ok (.iload_n 3, 1) := by decide +kernel
theorem dX3_make_32 : decode cX3_make 32 = .ok (.iload_n 2, 1) := by decide +kernel
theorem dX3_make_33 : decode cX3_make 33 = .ok (.if_icmp .ge 22, 3) := by decide +kernel
theorem dX3_make_36 : decode cX3_make 36 = .ok (.aload_n 0, 1) := by decide +kernel
theorem dX3_make_37 : decode cX3_make 37 = .ok (.iload_n 3, 1) := by decide +kernel
theorem dX3_make_38 : decode cX3_make 38 = .ok (.aload_n 0, 1) := by decide +kernel
theorem dX3_make_39 : decode cX3_make 39 = .ok (.getfield 25, 3) := by decide +kernel
theorem dX3_make_42 : decode cX3_make 42 = .ok (.iload_n 3, 1) := by decide +kernel
theorem dX3_make_43 : decode cX3_make 43 = .ok (.invokevirtual 48, 3) := by decide +kernel
theorem dX3_make_46 : decode cX3_make 46 = .ok (.invokevirtual 51, 3) := by decide +kernel
theorem dX3_make_49 : decode cX3_make 49 = .ok (.iinc 3 1, 3) := by decide +kernel
theorem dX3_make_52 : decode cX3_make 52 = .ok (.goto (-21), 3) := by decide +kernel
theorem dX3_make_55 : decode cX3_make 55 = .ok (.aload_n 0, 1) := by decide +kernel
theorem dX3_make_56 : decode cX3_make 56 = .ok (.invokevirtual 55, 3) := by decide +kernel
theorem dX3_make_59 : decode cX3_make 59 = .ok (.ireturn, 1) := by decide +kernel
theorem dX3_doDeed_0 : decode cX3_doDeed 0 = .ok (.aload_n 0, 1) := by decide +kernel
theorem dX3_doDeed_1 : decode cX3_doDeed 1 = .ok (.getfield 25, 3) := by decide +kernel
theorem dX3_doDeed_4 : decode cX3_doDeed 4 = .ok (.iload_n 1, 1) := by decide +kernel
theorem dX3_doDeed_5 : decode cX3_doDeed 5 = .ok (.invokevirtual 59, 3) := by decide +kernel
theorem dX3_doDeed_8 : decode cX3_doDeed 8 = .ok (.tableswitch 208 0 7 #[48, 66, 104, 112, 142, 172, 180, 196], 48) := by decide +kernel
theorem dX3_doDeed_56 : decode cX3_doDeed 56 = .ok (.aload_n 0, 1) := by decide +kernel
theorem dX3_doDeed_57 : decode cX3_doDeed 57 = .ok (.aload_n 0, 1) := by decide +kernel
theorem dX3_doDeed_58 : decode cX3_doDeed 58 = .ok (.getfield 29, 3) := by decide +kernel
theorem dX3_doDeed_61 : decode cX3_doDeed 61 = .ok (.iconst 0, 1) := by decide +kernel
theorem dX3_doDeed_62 : decode cX3_doDeed 62 = .ok (.iload_n 2, 1) := by decide +kernel
theorem dX3_doDeed_63 : decode cX3_doDeed 63 = .ok (.bipush (-3), 2) := by decide +kernel
theorem dX3_doDeed_65 : decode cX3_doDeed 65 = .ok (.invokevirtual 62, 3) := by decide +kernel
theorem dX3_doDeed_68 : decode cX3_doDeed 68 = .ok (.invokevirtual 66, 3) := by decide +kernel
theorem dX3_doDeed_71 : decode cX3_doDeed 71 = .ok (.goto 145, 3) := by decide +kernel
theorem dX3_doDeed_74 : decode cX3_doDeed 74 = .ok (.aload_n 0, 1) := by decide +kernel
theorem dX3_doDeed_75 : decode cX3_doDeed 75 = .ok (.iload_n 2, 1) := by decide +kernel
theorem dX3_doDeed_76 : decode cX3_doDeed 76 = .ok (.bipush 8, 2) := by decide +kernel
theorem dX3_doDeed_78 : decode cX3_doDeed 78 = .ok (.if_icmp .ne 17, 3) := by decide +kernel
theorem dX3_doDeed_81 : decode cX3_doDeed 81 = .ok (.aload_n 0, 1) := by decide +kernel
theorem dX3_doDeed_82 : decode cX3_doDeed 82 = .ok (.getfield 29, 3) := by decide +kernel
theorem dX3_doDeed_85 : decode cX3_doDeed 85 = .ok (.iconst 5, 1) := by decide +kernel
theorem dX3_doDeed_86 : decode cX3_doDeed 86 = .ok (.iconst 0, 1) := by decide +kernel
theorem dX3_doDeed_87 : decode cX3_doDeed 87 = .ok (.bipush (-3), 2) := by decide +kernel
theorem dX3_doDeed_89 : decode cX3_doDeed 89 = .ok (.invokevirtual 62, 3) := by decide +kernel
theorem dX3_doDeed_92 : decode cX3_doDeed 92 = .ok (.goto 14, 3) := by decide +kernel
theorem dX3_doDeed_95 : decode cX3_doDeed 95 = .ok (.aload_n 0, 1) := by decide +kernel
theorem dX3_doDeed_96 : decode cX3_doDeed 96 = .ok (.getfield 29, 3) := by decide +kernel
theorem dX3_doDeed_99 : decode cX3_doDeed 99 = .ok (.iconst 3, 1) := by decide +kernel
theorem dX3_doDeed_100 : decode cX3_doDeed 100 = .ok (.iload_n 2, 1) := by decide +kernel
theorem dX3_doDeed_101 : decode cX3_doDeed 101 = .ok (.bipush (-3), 2) := by decide +kernel
theorem dX3_doDeed_103 : decode cX3_doDeed 103 = .ok (.invokevirtual 62, 3) := by decide +kernel
theorem dX3_doDeed_106 : decode cX3_doDeed 106 = .ok (.invokevirtual 66, 3) := by decide +kernel
theorem dX3_doDeed_109 : decode cX3_doDeed 109 = .ok (.goto 107, 3) := by decide +kernel
theorem dX3_doDeed_112 : decode cX3_doDeed 112 = .ok (.aload_n 0, 1) := by decide +kernel
theorem dX3_doDeed_113 : decode cX3_doDeed 113 = .ok (.iload_n 2, 1) := by decide +kernel
theorem dX3_doDeed_114 : decode cX3_doDeed 114 = .ok (.invokevirtual 66, 3) := by decide +kernel
theorem dX3_doDeed_117 : decode cX3_doDeed 117 = .ok (.goto 99, 3) := by decide +kernel
theorem dX3_doDeed_120 : decode cX3_doDeed 120 = .ok (.aload_n 0, 1) := by decide +kernel
theorem dX3_doDeed_121 : decode cX3_doDeed 121 = .ok (.iload_n 2, 1) := by decide +kernel
theorem dX3_doDeed_122 : decode cX3_doDeed 122 = .ok (.ifCond .lt 21, 3) := by decide +kernel
theorem dX3_doDeed_125 : decode cX3_doDeed 125 = .ok (.iload_n 2, 1) := by decide +kernel
theorem dX3_doDeed_126 : decode cX3_doDeed 126 = .ok (.aload_n 0, 1) := by decide +kernel
theorem dX3_doDeed_127 : decode cX3_doDeed 127 = .ok (.getfield 9, 3) := by decide +kernel
theorem dX3_doDeed_130 : decode cX3_doDeed 130 = .ok (.arraylength, 1) := by decide +kernel
theorem dX3_doDeed_131 : decode cX3_doDeed 131 = .ok (.if_icmp .ge 12, 3) := by decide +kernel
theorem dX3_doDeed_134 : decode cX3_doDeed 134 = .ok (.aload_n 0, 1) := by decide +kernel
theorem dX3_doDeed_135 : decode cX3_doDeed 135 = .ok (.getfield 9, 3) := by decide +kernel
theorem dX3_doDeed_138 : decode cX3_doDeed 138 = .ok (.iload_n 2, 1) := by decide +kernel
theorem dX3_doDeed_139 : decode cX3_doDeed 139 = .ok (.iaload, 1) := by decide +kernel
theorem dX3_doDeed_140 : decode cX3_doDeed 140 = .ok (.goto 4, 3) := by decide +kernel
theorem dX3_doDeed_143 : decode cX3_doDeed 143 = .ok (.iconst (-1), 1) := by decide +kernel
theorem dX3_doDeed_144 : decode cX3_doDeed 144 = .ok (.invokevirtual 66, 3) := by decide +kernel
theorem dX3_doDeed_147 : decode cX3_doDeed 147 = .ok (.goto 69, 3) := by decide +kernel
theorem dX3_doDeed_150 : decode cX3_doDeed 150 = .ok (.aload_n 0, 1) := by decide +kernel
theorem dX3_doDeed_151 : decode cX3_doDeed 151 = .ok (.iload_n 2, 1) := by decide +kernel
theorem dX3_doDeed_152 : decode cX3_doDeed 152 = .ok (.ifCond .lt 21, 3) := by decide +kernel
theorem dX3_doDeed_155 : decode cX3_doDeed 155 = .ok (.iload_n 2, 1) := by decide +kernel
theorem dX3_doDeed_156 : decode cX3_doDeed 156 = .ok (.aload_n 0, 1) := by decide +kernel
theorem dX3_doDeed_157 : decode cX3_doDeed 157 = .ok (.getfield 15, 3) := by decide +kernel
theorem dX3_doDeed_160 : decode cX3_doDeed 160 = .ok (.arraylength, 1) := by decide +kernel
theorem dX3_doDeed_161 : decode cX3_doDeed 161 = .ok (.if_icmp .ge 12, 3) := by decide +kernel
theorem dX3_doDeed_164 : decode cX3_doDeed 164 = .ok (.aload_n 0, 1) := by decide +kernel
theorem dX3_doDeed_165 : decode cX3_doDeed 165 = .ok (.getfield 15, 3) := by decide +kernel
theorem dX3_doDeed_168 : decode cX3_doDeed 168 = .ok (.iload_n 2, 1) := by decide +kernel
theorem dX3_doDeed_169 : decode cX3_doDeed 169 = .ok (.iaload, 1) := by decide +kernel
theorem dX3_doDeed_170 : decode cX3_doDeed 170 = .ok (.goto 4, 3) := by decide +kernel
theorem dX3_doDeed_173 : decode cX3_doDeed 173 = .ok (.iconst (-1), 1) := by decide +kernel
theorem dX3_doDeed_174 : decode cX3_doDeed 174 = .ok (.invokevirtual 66, 3) := by decide +kernel
theorem dX3_doDeed_177 : decode cX3_doDeed 177 = .ok (.goto 39, 3) := by decide +kernel
theorem dX3_doDeed_180 : decode cX3_doDeed 180 = .ok (.aload_n 0, 1) := by decide +kernel
theorem dX3_doDeed_181 : decode cX3_doDeed 181 = .ok (.iload_n 2, 1) := by decide +kernel
theorem dX3_doDeed_182 : decode cX3_doDeed 182 = .ok (.invokevirtual 69, 3) := by decide +kernel
theorem dX3_doDeed_185 : decode cX3_doDeed 185 = .ok (.goto 31, 3) := by decide +kernel
theorem dX3_doDeed_188 : decode cX3_doDeed 188 = .ok (.aload_n 0, 1) := by decide +kernel
theorem dX3_doDeed_189 : decode cX3_doDeed 189 = .ok (.aload_n 0, 1) := by decide +kernel
theorem dX3_doDeed_190 : decode cX3_doDeed 190 = .ok (.getfield 25, 3) := by decide +kernel
theorem dX3_doDeed_193 : decode cX3_doDeed 193 = .ok (.iload_n 1, 1) := by decide +kernel
theorem dX3_doDeed_194 : decode cX3_doDeed 194 = .ok (.invokevirtual 72, 3) := by decide +kernel
theorem dX3_doDeed_197 : decode cX3_doDeed 197 = .ok (.iload_n 2, 1) := by decide +kernel
theorem dX3_doDeed_198 : decode cX3_doDeed 198 = .ok (.invokevirtual 75, 3) := by decide +kernel
theorem dX3_doDeed_201 : decode cX3_doDeed 201 = .ok (.goto 15, 3) := by decide +kernel
theorem dX3_doDeed_204 : decode cX3_doDeed 204 = .ok (.aload_n 0, 1) := by decide +kernel
theorem dX3_doDeed_205 : decode cX3_doDeed 205 = .ok (.iload_n 2, 1) := by decide +kernel
theorem dX3_doDeed_206 : decode cX3_doDeed 206 = .ok (.aload_n 0, 1) := by decide +kernel
theorem dX3_doDeed_207 : decode cX3_doDeed 207 = .ok (.invokevirtual 55, 3) := by decide +kernel
theorem dX3_doDeed_210 : decode cX3_doDeed 210 = .ok (.invokevirtual 78, 3) := by decide +kernel
theorem dX3_doDeed_213 : decode cX3_doDeed 213 = .ok (.goto 3, 3) := by decide +kernel
theorem dX3_doDeed_216 : decode cX3_doDeed 216 = .ok (.return_, 1) := by decide +kernel
theorem dX3_letWait_0 : decode cX3_letWait 0 = .ok (.aload_n 0, 1) := by decide +kernel
theorem dX3_letWait_1 : decode cX3_letWait 1 = .ok (.getfield 21, 3) := by decide +kernel
theorem dX3_letWait_4 : decode cX3_letWait 4 = .ok (.ifCond .lt 35, 3) := by decide +kernel
theorem dX3_letWait_7 : decode cX3_letWait 7 = .ok (.aload_n 0, 1) := by decide +kernel
theorem dX3_letWait_8 : decode cX3_letWait 8 = .ok (.getfield 21, 3) := by decide +kernel
theorem dX3_letWait_11 : decode cX3_letWait 11 = .ok (.aload_n 0, 1) := by decide +kernel
theorem dX3_letWait_12 : decode cX3_letWait 12 = .ok (.getfield 18, 3) := by decide +kernel
theorem dX3_letWait_15 : decode cX3_letWait 15 = .ok (.arraylength, 1) := by decide +kernel
theorem dX3_letWait_16 : decode cX3_letWait 16 = .ok (.if_icmp .ge 23, 3) := by decide +kernel
theorem dX3_letWait_19 : decode cX3_letWait 19 = .ok (.aload_n 0, 1) := by decide +kernel
theorem dX3_letWait_20 : decode cX3_letWait 20 = .ok (.getfield 18, 3) := by decide +kernel
theorem dX3_letWait_23 : decode cX3_letWait 23 = .ok (.aload_n 0, 1) := by decide +kernel
theorem dX3_letWait_24 : decode cX3_letWait 24 = .ok (.getfield 21, 3) := by decide +kernel
theorem dX3_letWait_27 : decode cX3_letWait 27 = .ok (.iload_n 1, 1) := by decide +kernel
theorem dX3_letWait_28 : decode cX3_letWait 28 = .ok (.iastore, 1) := by decide +kernel
theorem dX3_letWait_29 : decode cX3_letWait 29 = .ok (.aload_n 0, 1) := by decide +kernel
theorem dX3_letWait_30 : decode cX3_letWait 30 = .ok (.dup, 1) := by decide +kernel
theorem dX3_letWait_31 : decode cX3_letWait 31 = .ok (.getfield 21, 3) := by decide +kernel
theorem dX3_letWait_34 : decode cX3_letWait 34 = .ok (.iconst 1, 1) := by decide +kernel
theorem dX3_letWait_35 : decode cX3_letWait 35 = .ok (.iadd, 1) := by decide +kernel
theorem dX3_letWait_36 : decode cX3_letWait 36 = .ok (.putfield 21, 3) := by decide +kernel
theorem dX3_letWait_39 : decode cX3_letWait 39 = .ok (.return_, 1) := by decide +kernel
theorem dX3_takeWaiting_0 : decode cX3_takeWaiting 0 = .ok (.aload_n 0, 1) := by decide +kernel
theorem dX3_takeWaiting_1 : decode cX3_takeWaiting 1 = .ok (.getfield 21, 3) := by decide +kernel
theorem dX3_takeWaiting_4 : decode cX3_takeWaiting 4 = .ok (.iconst 1, 1) := by decide +kernel
theorem dX3_takeWaiting_5 : decode cX3_takeWaiting 5 = .ok (.if_icmp .lt 15, 3) := by decide +kernel
theorem dX3_takeWaiting_8 : decode cX3_takeWaiting 8 = .ok (.aload_n 0, 1) := by decide +kernel
theorem dX3_takeWaiting_9 : decode cX3_takeWaiting 9 = .ok (.getfield 21, 3) := by decide +kernel
theorem dX3_takeWaiting_12 : decode cX3_takeWaiting 12 = .ok (.aload_n 0, 1) := by decide +kernel
theorem dX3_takeWaiting_13 : decode cX3_takeWaiting 13 = .ok (.getfield 18, 3) := by decide +kernel
theorem dX3_takeWaiting_16 : decode cX3_takeWaiting 16 = .ok (.arraylength, 1) := by decide +kernel
theorem dX3_takeWaiting_17 : decode cX3_takeWaiting 17 = .ok (.if_icmp .le 5, 3) := by decide +kernel
theorem dX3_takeWaiting_20 : decode cX3_takeWaiting 20 = .ok (.iconst (-1), 1) := by decide +kernel
theorem dX3_takeWaiting_21 : decode cX3_takeWaiting 21 = .ok (.ireturn, 1) := by decide +kernel
theorem dX3_takeWaiting_22 : decode cX3_takeWaiting 22 = .ok (.aload_n 0, 1) := by decide +kernel
theorem dX3_takeWaiting_23 : decode cX3_takeWaiting 23 = .ok (.dup, 1) := by decide +kernel
theorem dX3_takeWaiting_24 : decode cX3_takeWaiting 24 = .ok (.getfield 21, 3) := by decide +kernel
theorem dX3_takeWaiting_27 : decode cX3_takeWaiting 27 = .ok (.iconst 1, 1) := by decide +kernel
theorem dX3_takeWaiting_28 : decode cX3_takeWaiting 28 = .ok (.isub, 1) := by decide +kernel
theorem dX3_takeWaiting_29 : decode cX3_takeWaiting 29 = .ok (.putfield 21, 3) := by decide +kernel
theorem dX3_takeWaiting_32 : decode cX3_takeWaiting 32 = .ok (.aload_n 0, 1) := by decide +kernel
theorem dX3_takeWaiting_33 : decode cX3_takeWaiting 33 = .ok (.getfield 18, 3) := by decide +kernel
theorem dX3_takeWaiting_36 : decode cX3_takeWaiting 36 = .ok (.aload_n 0, 1) := by decide +kernel
theorem dX3_takeWaiting_37 : decode cX3_takeWaiting 37 = .ok (.getfield 21, 3) := by decide +kernel
theorem dX3_takeWaiting_40 : decode cX3_takeWaiting 40 = .ok (.iaload, 1) := by decide +kernel
theorem dX3_takeWaiting_41 : decode cX3_takeWaiting 41 = .ok (.ireturn, 1) := by decide +kernel
theorem dX3_applyWaiting_0 : decode cX3_applyWaiting 0 = .ok (.aload_n 0, 1) := by decide +kernel
theorem dX3_applyWaiting_1 : decode cX3_applyWaiting 1 = .ok (.getfield 21, 3) := by decide +kernel
theorem dX3_applyWaiting_4 : decode cX3_applyWaiting 4 = .ok (.iload_n 1, 1) := by decide +kernel
theorem dX3_applyWaiting_5 : decode cX3_applyWaiting 5 = .ok (.isub, 1) := by decide +kernel
theorem dX3_applyWaiting_6 : decode cX3_applyWaiting 6 = .ok (.istore_n 2, 1) := by decide +kernel
theorem dX3_applyWaiting_7 : decode cX3_applyWaiting 7 = .ok (.iload_n 2, 1) := by decide +kernel
theorem dX3_applyWaiting_8 : decode cX3_applyWaiting 8 = .ok (.ifCond .lt 12, 3) := by decide +kernel
theorem dX3_applyWaiting_11 : decode cX3_applyWaiting 11 = .ok (.iload_n 2, 1) := by decide +kernel
theorem dX3_applyWaiting_12 : decode cX3_applyWaiting 12 = .ok (.aload_n 0, 1) := by decide +kernel
theorem dX3_applyWaiting_13 : decode cX3_applyWaiting 13 = .ok (.getfield 18, 3) := by decide +kernel
theorem dX3_applyWaiting_16 : decode cX3_applyWaiting 16 = .ok (.arraylength, 1) := by decide +kernel
theorem dX3_applyWaiting_17 : decode cX3_applyWaiting 17 = .ok (.if_icmp .lt 4, 3) := by decide +kernel
theorem dX3_applyWaiting_20 : decode cX3_applyWaiting 20 = .ok (.return_, 1) := by decide +kernel
theorem dX3_applyWaiting_21 : decode cX3_applyWaiting 21 = .ok (.aload_n 0, 1) := by decide +kernel
theorem dX3_applyWaiting_22 : decode cX3_applyWaiting 22 = .ok (.getfield 18, 3) := by decide +kernel
theorem dX3_applyWaiting_25 : decode cX3_applyWaiting 25 = .ok (.iload_n 2, 1) := by decide +kernel
theorem dX3_applyWaiting_26 : decode cX3_applyWaiting 26 = .ok (.iaload, 1) := by decide +kernel
theorem dX3_applyWaiting_27 : decode cX3_applyWaiting 27 = .ok (.istore_n 3, 1) := by decide +kernel
theorem dX3_applyWaiting_28 : decode cX3_applyWaiting 28 = .ok (.iload_n 2, 1) := by decide +kernel
theorem dX3_applyWaiting_29 : decode cX3_applyWaiting 29 = .ok (.iconst 1, 1) := by decide +kernel
theorem dX3_applyWaiting_30 : decode cX3_applyWaiting 30 = .ok (.iadd, 1) := by decide +kernel
theorem dX3_applyWaiting_31 : decode cX3_applyWaiting 31 = .ok (.istore 4, 2) := by decide +kernel
theorem dX3_applyWaiting_33 : decode cX3_applyWaiting 33 = .ok (.iload 4, 2) := by decide +kernel
theorem dX3_applyWaiting_35 : decode cX3_applyWaiting 35 = .ok (.aload_n 0, 1) := by decide +kernel
theorem dX3_applyWaiting_36 : decode cX3_applyWaiting 36 = .ok (.getfield 21, 3) := by decide +kernel
theorem dX3_applyWaiting_39 : decode cX3_applyWaiting 39 = .ok (.if_icmp .ge 36, 3) := by decide +kernel
theorem dX3_applyWaiting_42 : decode cX3_applyWaiting 42 = .ok (.iload 4, 2) := by decide +kernel
theorem dX3_applyWaiting_44 : decode cX3_applyWaiting 44 = .ok (.aload_n 0, 1) := by decide +kernel
theorem dX3_applyWaiting_45 : decode cX3_applyWaiting 45 = .ok (.getfield 18, 3) := by decide +kernel
theorem dX3_applyWaiting_48 : decode cX3_applyWaiting 48 = .ok (.arraylength, 1) := by decide +kernel
theorem dX3_applyWaiting_49 : decode cX3_applyWaiting 49 = .ok (.if_icmp .ge 26, 3) := by decide +kernel
theorem dX3_applyWaiting_52 : decode cX3_applyWaiting 52 = .ok (.aload_n 0, 1) := by decide +kernel
theorem dX3_applyWaiting_53 : decode cX3_applyWaiting 53 = .ok (.getfield 29, 3) := by decide +kernel
theorem dX3_applyWaiting_56 : decode cX3_applyWaiting 56 = .ok (.iconst 1, 1) := by decide +kernel
theorem dX3_applyWaiting_57 : decode cX3_applyWaiting 57 = .ok (.iload_n 3, 1) := by decide +kernel
theorem dX3_applyWaiting_58 : decode cX3_applyWaiting 58 = .ok (.aload_n 0, 1) := by decide +kernel
theorem dX3_applyWaiting_59 : decode cX3_applyWaiting 59 = .ok (.getfield 18, 3) := by decide +kernel
theorem dX3_applyWaiting_62 : decode cX3_applyWaiting 62 = .ok (.iload 4, 2) := by decide +kernel
theorem dX3_applyWaiting_64 : decode cX3_applyWaiting 64 = .ok (.iaload, 1) := by decide +kernel
theorem dX3_applyWaiting_65 : decode cX3_applyWaiting 65 = .ok (.invokevirtual 62, 3) := by decide +kernel
theorem dX3_applyWaiting_68 : decode cX3_applyWaiting 68 = .ok (.istore_n 3, 1) := by decide +kernel
theorem dX3_applyWaiting_69 : decode cX3_applyWaiting 69 = .ok (.iinc 4 1, 3) := by decide +kernel
theorem dX3_applyWaiting_72 : decode cX3_applyWaiting 72 = .ok (.goto (-39), 3) := by decide +kernel
theorem dX3_applyWaiting_75 : decode cX3_applyWaiting 75 = .ok (.aload_n 0, 1) := by decide +kernel
theorem dX3_applyWaiting_76 : decode cX3_applyWaiting 76 = .ok (.iload_n 2, 1) := by decide +kernel
theorem dX3_applyWaiting_77 : decode cX3_applyWaiting 77 = .ok (.putfield 21, 3) := by decide +kernel
theorem dX3_applyWaiting_80 : decode cX3_applyWaiting 80 = .ok (.aload_n 0, 1) := by decide +kernel
theorem dX3_applyWaiting_81 : decode cX3_applyWaiting 81 = .ok (.iload_n 3, 1) := by decide +kernel
theorem dX3_applyWaiting_82 : decode cX3_applyWaiting 82 = .ok (.invokevirtual 66, 3) := by decide +kernel
theorem dX3_applyWaiting_85 : decode cX3_applyWaiting 85 = .ok (.return_, 1) := by decide +kernel
theorem dX3_addPointers_0 : decode cX3_addPointers 0 = .ok (.iconst 0, 1) := by decide +kernel
theorem dX3_addPointers_1 : decode cX3_addPointers 1 = .ok (.istore_n 3, 1) := by decide +kernel
theorem dX3_addPointers_2 : decode cX3_addPointers 2 = .ok (.iload_n 3, 1) := by decide +kernel
theorem dX3_addPointers_3 : decode cX3_addPointers 3 = .ok (.iload_n 2, 1) := by decide +kernel
theorem dX3_addPointers_4 : decode cX3_addPointers 4 = .ok (.if_icmp .ge 67, 3) := by decide +kernel
theorem dX3_addPointers_7 : decode cX3_addPointers 7 = .ok (.iload_n 1, 1) := by decide +kernel
theorem dX3_addPointers_8 : decode cX3_addPointers 8 = .ok (.iload_n 3, 1) := by decide +kernel
theorem dX3_addPointers_9 : decode cX3_addPointers 9 = .ok (.iadd, 1) := by decide +kernel
theorem dX3_addPointers_10 : decode cX3_addPointers 10 = .ok (.istore 4, 2) := by decide +kernel
theorem dX3_addPointers_12 : decode cX3_addPointers 12 = .ok (.iload 4, 2) := by decide +kernel
theorem dX3_addPointers_14 : decode cX3_addPointers 14 = .ok (.ifCond .lt 51, 3) := by decide +kernel
theorem dX3_addPointers_17 : decode cX3_addPointers 17 = .ok (.iload 4, 2) := by decide +kernel
theorem dX3_addPointers_19 : decode cX3_addPointers 19 = .ok (.aload_n 0, 1) := by decide +kernel
theorem dX3_addPointers_20 : decode cX3_addPointers 20 = .ok (.getfield 15, 3) := by decide +kernel
theorem dX3_addPointers_23 : decode cX3_addPointers 23 = .ok (.arraylength, 1) := by decide +kernel
theorem dX3_addPointers_24 : decode cX3_addPointers 24 = .ok (.if_icmp .ge 41, 3) := by decide +kernel
theorem dX3_addPointers_27 : decode cX3_addPointers 27 = .ok (.aload_n 0, 1) := by decide +kernel
theorem dX3_addPointers_28 : decode cX3_addPointers 28 = .ok (.getfield 29, 3) := by decide +kernel
theorem dX3_addPointers_31 : decode cX3_addPointers 31 = .ok (.bipush 6, 2) := by decide +kernel
theorem dX3_addPointers_33 : decode cX3_addPointers 33 = .ok (.iconst 0, 1) := by decide +kernel
theorem dX3_addPointers_34 : decode cX3_addPointers 34 = .ok (.bipush (-3), 2) := by decide +kernel
theorem dX3_addPointers_36 : decode cX3_addPointers 36 = .ok (.invokevirtual 62, 3) := by decide +kernel
theorem dX3_addPointers_39 : decode cX3_addPointers 39 = .ok (.istore 5, 2) := by decide +kernel
theorem dX3_addPointers_41 : decode cX3_addPointers 41 = .ok (.aload_n 0, 1) := by decide +kernel
theorem dX3_addPointers_42 : decode cX3_addPointers 42 = .ok (.getfield 29, 3) := by decide +kernel
theorem dX3_addPointers_45 : decode cX3_addPointers 45 = .ok (.iload 5, 2) := by decide +kernel
theorem dX3_addPointers_47 : decode cX3_addPointers 47 = .ok (.bipush 6, 2) := by decide +kernel
theorem dX3_addPointers_49 : decode cX3_addPointers 49 = .ok (.iload 5, 2) := by decide +kernel
theorem dX3_addPointers_51 : decode cX3_addPointers 51 = .ok (.bipush (-3), 2) := by decide +kernel
theorem dX3_addPointers_53 : decode cX3_addPointers 53 = .ok (.invokevirtual 81, 3) := by decide +kernel
theorem dX3_addPointers_56 : decode cX3_addPointers 56 = .ok (.aload_n 0, 1) := by decide +kernel
theorem dX3_addPointers_57 : decode cX3_addPointers 57 = .ok (.getfield 15, 3) := by decide +kernel
theorem dX3_addPointers_60 : decode cX3_addPointers 60 = .ok (.iload 4, 2) := by decide +kernel
theorem dX3_addPointers_62 : decode cX3_addPointers 62 = .ok (.iload 5, 2) := by decide +kernel
theorem dX3_addPointers_64 : decode cX3_addPointers 64 = .ok (.iastore, 1) := by decide +kernel
theorem dX3_addPointers_65 : decode cX3_addPointers 65 = .ok (.iinc 3 1, 3) := by decide +kernel
theorem dX3_addPointers_68 : decode cX3_addPointers 68 = .ok (.goto (-66), 3) := by decide +kernel
theorem dX3_addPointers_71 : decode cX3_addPointers 71 = .ok (.return_, 1) := by decide +kernel
theorem dX3_bind_0 : decode cX3_bind 0 = .ok (.iload_n 1, 1) := by decide +kernel
theorem dX3_bind_1 : decode cX3_bind 1 = .ok (.ifCond .lt 30, 3) := by decide +kernel
theorem dX3_bind_4 : decode cX3_bind 4 = .ok (.iload_n 1, 1) := by decide +kernel
theorem dX3_bind_5 : decode cX3_bind 5 = .ok (.aload_n 0, 1) := by decide +kernel
theorem dX3_bind_6 : decode cX3_bind 6 = .ok (.getfield 15, 3) := by decide +kernel
theorem dX3_bind_9 : decode cX3_bind 9 = .ok (.arraylength, 1) := by decide +kernel
theorem dX3_bind_10 : decode cX3_bind 10 = .ok (.if_icmp .ge 21, 3) := by decide +kernel
theorem dX3_bind_13 : decode cX3_bind 13 = .ok (.aload_n 0, 1) := by decide +kernel
theorem dX3_bind_14 : decode cX3_bind 14 = .ok (.getfield 29, 3) := by decide +kernel
theorem dX3_bind_17 : decode cX3_bind 17 = .ok (.aload_n 0, 1) := by decide +kernel
theorem dX3_bind_18 : decode cX3_bind 18 = .ok (.getfield 15, 3) := by decide +kernel
theorem dX3_bind_21 : decode cX3_bind 21 = .ok (.iload_n 1, 1) := by decide +kernel
theorem dX3_bind_22 : decode cX3_bind 22 = .ok (.iaload, 1) := by decide +kernel
theorem dX3_bind_23 : decode cX3_bind 23 = .ok (.bipush 6, 2) := by decide +kernel
theorem dX3_bind_25 : decode cX3_bind 25 = .ok (.iload_n 2, 1) := by decide +kernel
theorem dX3_bind_26 : decode cX3_bind 26 = .ok (.bipush (-3), 2) := by decide +kernel
theorem dX3_bind_28 : decode cX3_bind 28 = .ok (.invokevirtual 81, 3) := by decide +kernel
theorem dX3_bind_31 : decode cX3_bind 31 = .ok (.return_, 1) := by decide +kernel
theorem dX4_init_0 : decode cX4_init 0 = .ok (.aload_n 0, 1) := by decide +kernel
theorem dX4_init_1 : decode cX4_init 1 = .ok (.invokespecial 3, 3) := by decide +kernel
theorem dX4_init_4 : decode cX4_init 4 = .ok (.aload_n 0, 1) := by decide +kernel
theorem dX4_init_5 : decode cX4_init 5 = .ok (.bipush 20, 2) := by decide +kernel
theorem dX4_init_7 : decode cX4_init 7 = .ok (.newarray .long, 2) := by decide +kernel
theorem dX4_init_9 : decode cX4_init 9 = .ok (.putfield 9, 3) := by decide +kernel
theorem dX4_init_12 : decode cX4_init 12 = .ok (.aload_n 0, 1) := by decide +kernel
theorem dX4_init_13 : decode cX4_init 13 = .ok (.bipush 20, 2) := by decide +kernel
theorem dX4_init_15 : decode cX4_init 15 = .ok (.newarray .int, 2) := by decide +kernel
theorem dX4_init_17 : decode cX4_init 17 = .ok (.putfield 15, 3) := by decide +kernel
theorem dX4_init_20 : decode cX4_init 20 = .ok (.aload_n 0, 1) := by decide +kernel
theorem dX4_init_21 : decode cX4_init 21 = .ok (.bipush 20, 2) := by decide +kernel
theorem dX4_init_23 : decode cX4_init 23 = .ok (.newarray .int, 2) := by decide +kernel
theorem dX4_init_25 : decode cX4_init 25 = .ok (.putfield 19, 3) := by decide +kernel
theorem dX4_init_28 : decode cX4_init 28 = .ok (.aload_n 0, 1) := by decide +kernel
theorem dX4_init_29 : decode cX4_init 29 = .ok (.bipush 20, 2) := by decide +kernel
theorem dX4_init_31 : decode cX4_init 31 = .ok (.newarray .int, 2) := by decide +kernel
theorem dX4_init_33 : decode cX4_init 33 = .ok (.putfield 22, 3) := by decide +kernel
theorem dX4_init_36 : decode cX4_init 36 = .ok (.aload_n 0, 1) := by decide +kernel
theorem dX4_init_37 : decode cX4_init 37 = .ok (.bipush 20, 2) := by decide +kernel
theorem dX4_init_39 : decode cX4_init 39 = .ok (.newarray .int, 2) := by decide +kernel
theorem dX4_init_41 : decode cX4_init 41 = .ok (.putfield 25, 3) := by decide +kernel
theorem dX4_init_44 : decode cX4_init 44 = .ok (.aload_n 0, 1) := by decide +kernel
theorem dX4_init_45 : decode cX4_init 45 = .ok (.iconst 0, 1) := by decide +kernel
theorem dX4_init_46 : decode cX4_init 46 = .ok (.putfield 28, 3) := by decide +kernel
theorem dX4_init_49 : decode cX4_init 49 = .ok (.aload_n 0, 1) := by decide +kernel
theorem dX4_init_50 : decode cX4_init 50 = .ok (.sipush 800, 3) := by decide +kernel
theorem dX4_init_53 : decode cX4_init 53 = .ok (.newarray .int, 2) := by decide +kernel
theorem dX4_init_55 : decode cX4_init 55 = .ok (.putfield 32, 3) := by decide +kernel
theorem dX4_init_58 : decode cX4_init 58 = .ok (.aload_n 0, 1) := by decide +kernel
theorem dX4_init_59 : decode cX4_init 59 = .ok (.sipush 800, 3) := by decide +kernel
theorem dX4_init_62 : decode cX4_init 62 = .ok (.newarray .int, 2) := by decide +kernel
theorem dX4_init_64 : decode cX4_init 64 = .ok (.putfield 35, 3) := by decide +kernel
theorem dX4_init_67 : decode cX4_init 67 = .ok (.aload_n 0, 1) := by decide +kernel
theorem dX4_init_68 : decode cX4_init 68 = .ok (.sipush 800, 3) := by decide +kernel
theorem dX4_init_71 : decode cX4_init 71 = .ok (.newarray .int, 2) := by decide +kernel
theorem dX4_init_73 : decode cX4_init 73 = .ok (.putfield 38, 3) := by decide +kernel
theorem dX4_init_76 : decode cX4_init 76 = .ok (.aload_n 0, 1) := by decide +kernel
theorem dX4_init_77 : decode cX4_init 77 = .ok (.sipush 800, 3) := by decide +kernel
theorem dX4_init_80 : decode cX4_init 80 = .ok (.newarray .long, 2) := by decide +kernel
theorem dX4_init_82 : decode cX4_init 82 = .ok (.putfield 41, 3) := by decide +kernel
theorem dX4_init_85 : decode cX4_init 85 = .ok (.aload_n 0, 1) := by decide +kernel
theorem dX4_init_86 : decode cX4_init 86 = .ok (.sipush 800, 3) := by decide +kernel
theorem dX4_init_89 : decode cX4_init 89 = .ok (.newarray .int, 2) := by decide +kernel
theorem dX4_init_91 : decode cX4_init 91 = .ok (.putfield 44, 3) := by decide +kernel
theorem dX4_init_94 : decode cX4_init 94 = .ok (.aload_n 0, 1) := by decide +kernel
theorem dX4_init_95 : decode cX4_init 95 = .ok (.iconst 0, 1) := by decide +kernel
theorem dX4_init_96 : decode cX4_init 96 = .ok (.putfield 47, 3) := by decide +kernel
theorem dX4_init_99 : decode cX4_init 99 = .ok (.return_, 1) := by decide +kernel
theorem dX4_clear_0 : decode cX4_clear 0 = .ok (.aload_n 0, 1) := by decide +kernel
theorem dX4_clear_1 : decode cX4_clear 1 = .ok (.iconst 0, 1) := by decide +kernel
theorem dX4_clear_2 : decode cX4_clear 2 = .ok (.putfield 28, 3) := by decide +kernel
theorem dX4_clear_5 : decode cX4_clear 5 = .ok (.aload_n 0, 1) := by decide +kernel
theorem dX4_clear_6 : decode cX4_clear 6 = .ok (.iconst 0, 1) := by decide +kernel
theorem dX4_clear_7 : decode cX4_clear 7 = .ok (.putfield 47, 3) := by decide +kernel
theorem dX4_clear_10 : decode cX4_clear 10 = .ok (.return_, 1) := by decide +kernel
theorem dX4_size_0 : decode cX4_size 0 = .ok (.aload_n 0, 1) := by decide +kernel
theorem dX4_size_1 : decode cX4_size 1 = .ok (.getfield 28, 3) := by decide +kernel
theorem dX4_size_4 : decode cX4_size 4 = .ok (.ireturn, 1) := by decide +kernel
theorem dX4_deedCount_0 : decode cX4_deedCount 0 = .ok (.aload_n 0, 1) := by decide +kernel
theorem dX4_deedCount_1 : decode cX4_deedCount 1 = .ok (.getfield 47, 3) := by decide +kernel
theorem dX4_deedCount_4 : decode cX4_deedCount 4 = .ok (.ireturn, 1) := by decide +kernel
theorem dX4_openDefinition_0 : decode cX4_openDefinition 0 = .ok (.aload_n 0, 1) := by decide +kernel
theorem dX4_openDefinition_1 : decode cX4_openDefinition 1 = .ok (.getfield 28, 3) := by decide +kernel
theorem dX4_openDefinition_4 : decode cX4_openDefinition 4 = .ok (.bipush 20, 2) := by decide +kernel
theorem dX4_openDefinition_6 : decode cX4_openDefinition 6 = .ok (.if_icmp .ge 69, 3) := by decide +kernel
theorem dX4_openDefinition_9 : decode cX4_openDefinition 9 = .ok (.aload_n 0, 1) := by decide +kernel
theorem dX4_openDefinition_10 : decode cX4_openDefinition 10 = .ok (.getfield 9, 3) := by decide +kernel
theorem dX4_openDefinition_13 : decode cX4_openDefinition 13 = .ok (.aload_n 0, 1) := by decide +kernel
theorem dX4_openDefinition_14 : decode cX4_openDefinition 14 = .ok (.getfield 28, 3) := by decide +kernel
theorem dX4_openDefinition_17 : decode cX4_openDefinition 17 = .ok (.lload_n 1, 1) := by decide +kernel
theorem dX4_openDefinition_18 : decode cX4_openDefinition 18 = .ok (.lastore, 1) := by decide +kernel
theorem dX4_openDefinition_19 : decode cX4_openDefinition 19 = .ok (.aload_n 0, 1) := by decide +kernel
theorem dX4_openDefinition_20 : decode cX4_openDefinition 20 = .ok (.getfield 15, 3) := by decide +kernel
theorem dX4_openDefinition_23 : decode cX4_openDefinition 23 = .ok (.aload_n 0, 1) := by decide +kernel
theorem dX4_openDefinition_24 : decode cX4_openDefinition 24 = .ok (.getfield 28, 3) := by decide +kernel
theorem dX4_openDefinition_27 : decode cX4_openDefinition 27 = .ok (.iconst 0, 1) := by decide +kernel
theorem dX4_openDefinition_28 : decode cX4_openDefinition 28 = .ok (.iastore, 1) := by decide +kernel
theorem dX4_openDefinition_29 : decode cX4_openDefinition 29 = .ok (.aload_n 0, 1) := by decide +kernel
theorem dX4_openDefinition_30 : decode cX4_openDefinition 30 = .ok (.getfield 19, 3) := by decide +kernel
theorem dX4_openDefinition_33 : decode cX4_openDefinition 33 = .ok (.aload_n 0, 1) := by decide +kernel
theorem dX4_openDefinition_34 : decode cX4_openDefinition 34 = .ok (.getfield 28, 3) := by decide +kernel
theorem dX4_openDefinition_37 : decode cX4_openDefinition 37 = .ok (.aload_n 0, 1) := by decide +kernel
theorem dX4_openDefinition_38 : decode cX4_openDefinition 38 = .ok (.getfield 47, 3) := by decide +kernel
theorem dX4_openDefinition_41 : decode cX4_openDefinition 41 = .ok (.iastore, 1) := by decide +kernel
theorem dX4_openDefinition_42 : decode cX4_openDefinition 42 = .ok (.aload_n 0, 1) := by decide +kernel
theorem dX4_openDefinition_43 : decode cX4_openDefinition 43 = .ok (.getfield 22, 3) := by decide +kernel
theorem dX4_openDefinition_46 : decode cX4_openDefinition 46 = .ok (.aload_n 0, 1) := by decide +kernel
theorem dX4_openDefinition_47 : decode cX4_openDefinition 47 = .ok (.getfield 28, 3) := by decide +kernel
theorem dX4_openDefinition_50 : decode cX4_openDefinition 50 = .ok (.aload_n 0, 1) := by decide +kernel
theorem dX4_openDefinition_51 : decode cX4_openDefinition 51 = .ok (.getfield 47, 3) := by decide +kernel
theorem dX4_openDefinition_54 : decode cX4_openDefinition 54 = .ok (.iastore, 1) := by decide +kernel
theorem dX4_openDefinition_55 : decode cX4_openDefinition 55 = .ok (.aload_n 0, 1) := by decide +kernel
theorem dX4_openDefinition_56 : decode cX4_openDefinition 56 = .ok (.getfield 25, 3) := by decide +kernel
theorem dX4_openDefinition_59 : decode cX4_openDefinition 59 = .ok (.aload_n 0, 1) := by decide +kernel
theorem dX4_openDefinition_60 : decode cX4_openDefinition 60 = .ok (.getfield 28, 3) := by decide +kernel
theorem dX4_openDefinition_63 : decode cX4_openDefinition 63 = .ok (.iconst 0, 1) := by decide +kernel
theorem dX4_openDefinition_64 : decode cX4_openDefinition 64 = .ok (.iastore, 1) := by decide +kernel
theorem dX4_openDefinition_65 : decode cX4_openDefinition 65 = .ok (.aload_n 0, 1) := by decide +kernel
theorem dX4_openDefinition_66 : decode cX4_openDefinition 66 = .ok (.dup, 1) := by decide +kernel
theorem dX4_openDefinition_67 : decode cX4_openDefinition 67 = .ok (.getfield 28, 3) := by decide +kernel
theorem dX4_openDefinition_70 : decode cX4_openDefinition 70 = .ok (.iconst 1, 1) := by decide +kernel
theorem dX4_openDefinition_71 : decode cX4_openDefinition 71 = .ok (.iadd, 1) := by decide +kernel
theorem dX4_openDefinition_72 : decode cX4_openDefinition 72 = .ok (.putfield 28, 3) := by decide +kernel
theorem dX4_openDefinition_75 : decode cX4_openDefinition 75 = .ok (.return_, 1) := by decide +kernel
theorem dX4_closeDefinition_0 : decode cX4_closeDefinition 0 = .ok (.aload_n 0, 1) := by decide +kernel
theorem dX4_closeDefinition_1 : decode cX4_closeDefinition 1 = .ok (.getfield 28, 3) := by decide +kernel
theorem dX4_closeDefinition_4 : decode cX4_closeDefinition 4 = .ok (.iconst 1, 1) := by decide +kernel
theorem dX4_closeDefinition_5 : decode cX4_closeDefinition 5 = .ok (.isub, 1) := by decide +kernel
theorem dX4_closeDefinition_6 : decode cX4_closeDefinition 6 = .ok (.istore_n 2, 1) := by decide +kernel
theorem dX4_closeDefinition_7 : decode cX4_closeDefinition 7 = .ok (.iload_n 2, 1) := by decide +kernel
theorem dX4_closeDefinition_8 : decode cX4_closeDefinition 8 = .ok (.ifCond .lt 42, 3) := by decide +kernel
theorem dX4_closeDefinition_11 : decode cX4_closeDefinition 11 = .ok (.iload_n 2, 1) := by decide +kernel
theorem dX4_closeDefinition_12 : decode cX4_closeDefinition 12 = .ok (.bipush 20, 2) := by decide +kernel
theorem dX4_closeDefinition_14 : decode cX4_closeDefinition 14 = .ok (.if_icmp .ge 36, 3) := by decide +kernel
theorem dX4_closeDefinition_17 : decode cX4_closeDefinition 17 = .ok (.aload_n 0, 1) := by decide +kernel
theorem dX4_closeDefinition_18 : decode cX4_closeDefinition 18 = .ok (.getfield 15, 3) := by decide +kernel
theorem dX4_closeDefinition_21 : decode cX4_closeDefinition 21 = .ok (.iload_n 2, 1) := by decide +kernel
theorem dX4_closeDefinition_22 : decode cX4_closeDefinition 22 = .ok (.iload_n 1, 1) := by decide +kernel
theorem dX4_closeDefinition_23 : decode cX4_closeDefinition 23 = .ok (.iastore, 1) := by decide +kernel
theorem dX4_closeDefinition_24 : decode cX4_closeDefinition 24 = .ok (.aload_n 0, 1) := by decide +kernel
theorem dX4_closeDefinition_25 : decode cX4_closeDefinition 25 = .ok (.getfield 22, 3) := by decide +kernel
theorem dX4_closeDefinition_28 : decode cX4_closeDefinition 28 = .ok (.iload_n 2, 1) := by decide +kernel
theorem dX4_closeDefinition_29 : decode cX4_closeDefinition 29 = .ok (.aload_n 0, 1) := by decide +kernel
theorem dX4_closeDefinition_30 : decode cX4_closeDefinition 30 = .ok (.getfield 47, 3) := by decide +kernel
theorem dX4_closeDefinition_33 : decode cX4_closeDefinition 33 = .ok (.iastore, 1) := by decide +kernel
theorem dX4_closeDefinition_34 : decode cX4_closeDefinition 34 = .ok (.aload_n 0, 1) := by decide +kernel
theorem dX4_closeDefinition_35 : decode cX4_closeDefinition 35 = .ok (.getfield 25, 3) := by decide +kernel
theorem dX4_closeDefinition_38 : decode cX4_closeDefinition 38 = .ok (.iload_n 2, 1) := by decide +kernel
theorem dX4_closeDefinition_39 : decode cX4_closeDefinition 39 = .ok (.aload_n 0, 1) := by decide +kernel
theorem dX4_closeDefinition_40 : decode cX4_closeDefinition 40 = .ok (.aload_n 0, 1) := by decide +kernel
theorem dX4_closeDefinition_41 : decode cX4_closeDefinition 41 = .ok (.getfield 19, 3) := by decide +kernel
theorem dX4_closeDefinition_44 : decode cX4_closeDefinition 44 = .ok (.iload_n 2, 1) := by decide +kernel
theorem dX4_closeDefinition_45 : decode cX4_closeDefinition 45 = .ok (.iaload, 1) := by decide +kernel
theorem dX4_closeDefinition_46 : decode cX4_closeDefinition 46 = .ok (.invokevirtual 50, 3) := by decide +kernel
theorem dX4_closeDefinition_49 : decode cX4_closeDefinition 49 = .ok (.iastore, 1) := by decide +kernel
theorem dX4_closeDefinition_50 : decode cX4_closeDefinition 50 = .ok (.return_, 1) := by decide +kernel
theorem dX4_countNodes_0 : decode cX4_countNodes 0 = .ok (.iconst 0, 1) := by decide +kernel
theorem dX4_countNodes_1 : decode cX4_countNodes 1 = .ok (.istore_n 2, 1) := by decide +kernel
theorem dX4_countNodes_2 : decode cX4_countNodes 2 = .ok (.iload_n 1, 1) := by decide +kernel
theorem dX4_countNodes_3 : decode cX4_countNodes 3 = .ok (.istore_n 3, 1) := by decide +kernel
theorem dX4_countNodes_4 : decode cX4_countNodes 4 = .ok (.iload_n 3, 1) := by decide +kernel
theorem dX4_countNodes_5 : decode cX4_countNodes 5 = .ok (.aload_n 0, 1) := by decide +kernel
theorem dX4_countNodes_6 : decode cX4_countNodes 6 = .ok (.getfield 47, 3) := by decide +kernel
theorem dX4_countNodes_9 : decode cX4_countNodes 9 = .ok (.if_icmp .ge 87, 3) := by decide +kernel
theorem dX4_countNodes_12 : decode cX4_countNodes 12 = .ok (.aload_n 0, 1) := by decide +kernel
theorem dX4_countNodes_13 : decode cX4_countNodes 13 = .ok (.iload_n 3, 1) := by decide +kernel
theorem dX4_countNodes_14 : decode cX4_countNodes 14 = .ok (.invokevirtual 54, 3) := by decide +kernel
theorem dX4_countNodes_17 : decode cX4_countNodes 17 = .ok (.tableswitch 73 0 6 #[43, 43, 73, 73, 73, 49, 62], 43) := by decide +kernel
theorem dX4_countNodes_60 : decode cX4_countNodes 60 = .ok (.iinc 2 1, 3) := by decide +kernel
theorem dX4_countNodes_63 : decode cX4_countNodes 63 = .ok (.goto 27, 3) := by decide +kernel
theorem dX4_countNodes_66 : decode cX4_countNodes 66 = .ok (.iload_n 2, 1) := by decide +kernel
theorem dX4_countNodes_67 : decode cX4_countNodes 67 = .ok (.aload_n 0, 1) := by decide +kernel
theorem dX4_countNodes_68 : decode cX4_countNodes 68 = .ok (.iload_n 3, 1) := by decide +kernel
theorem dX4_countNodes_69 : decode cX4_countNodes 69 = .ok (.invokevirtual 57, 3) := by decide +kernel
theorem dX4_countNodes_72 : decode cX4_countNodes 72 = .ok (.iconst 1, 1) := by decide +kernel
theorem dX4_countNodes_73 : decode cX4_countNodes 73 = .ok (.isub, 1) := by decide +kernel
theorem dX4_countNodes_74 : decode cX4_countNodes 74 = .ok (.iadd, 1) := by decide +kernel
theorem dX4_countNodes_75 : decode cX4_countNodes 75 = .ok (.istore_n 2, 1) := by decide +kernel
theorem dX4_countNodes_76 : decode cX4_countNodes 76 = .ok (.goto 14, 3) := by decide +kernel
theorem dX4_countNodes_79 : decode cX4_countNodes 79 = .ok (.iload_n 2, 1) := by decide +kernel
theorem dX4_countNodes_80 : decode cX4_countNodes 80 = .ok (.aload_n 0, 1) := by decide +kernel
theorem dX4_countNodes_81 : decode cX4_countNodes 81 = .ok (.iload_n 3, 1) := by decide +kernel
theorem dX4_countNodes_82 : decode cX4_countNodes 82 = .ok (.invokevirtual 57, 3) := by decide +kernel
theorem dX4_countNodes_85 : decode cX4_countNodes 85 = .ok (.iadd, 1) := by decide +kernel
theorem dX4_countNodes_86 : decode cX4_countNodes 86 = .ok (.istore_n 2, 1) := by decide +kernel
theorem dX4_countNodes_87 : decode cX4_countNodes 87 = .ok (.goto 3, 3) := by decide +kernel
theorem dX4_countNodes_90 : decode cX4_countNodes 90 = .ok (.iinc 3 1, 3) := by decide +kernel
theorem dX4_countNodes_93 : decode cX4_countNodes 93 = .ok (.goto (-89), 3) := by decide +kernel
theorem dX4_countNodes_96 : decode cX4_countNodes 96 = .ok (.iload_n 2, 1) := by decide +kernel
theorem dX4_countNodes_97 : decode cX4_countNodes 97 = .ok (.ireturn, 1) := by decide +kernel
theorem dX4_definitionOf_0 : decode cX4_definitionOf 0 = .ok (.iconst 0, 1) := by decide +kernel
theorem dX4_definitionOf_1 : decode cX4_definitionOf 1 = .ok (.istore_n 3, 1) := by decide +kernel
theorem dX4_definitionOf_2 : decode cX4_definitionOf 2 = .ok (.iload_n 3, 1) := by decide +kernel
theorem dX4_definitionOf_3 : decode cX4_definitionOf 3 = .ok (.aload_n 0, 1) := by decide +kernel
theorem dX4_definitionOf_4 : decode cX4_definitionOf 4 = .ok (.getfield 28, 3) := by decide +kernel
theorem dX4_definitionOf_7 : decode cX4_definitionOf 7 = .ok (.if_icmp .ge 28, 3) := by decide +kernel
theorem dX4_definitionOf_10 : decode cX4_definitionOf 10 = .ok (.iload_n 3, 1) := by decide +kernel
theorem dX4_definitionOf_11 : decode cX4_definitionOf 11 = .ok (.bipush 20, 2) := by decide +kernel
theorem dX4_definitionOf_13 : decode cX4_definitionOf 13 = .ok (.if_icmp .ge 22, 3) := by decide +kernel
theorem dX4_definitionOf_16 : decode cX4_definitionOf 16 = .ok (.aload_n 0, 1) := by decide +kernel
theorem dX4_definitionOf_17 : decode cX4_definitionOf 17 = .ok (.getfield 9, 3) := by decide +kernel
theorem dX4_definitionOf_20 : decode cX4_definitionOf 20 = .ok (.iload_n 3, 1) := by decide +kernel
theorem dX4_definitionOf_21 : decode cX4_definitionOf 21 = .ok (.laload, 1) := by decide +kernel
theorem dX4_definitionOf_22 : decode cX4_definitionOf 22 = .ok (.lload_n 1, 1) := by decide +kernel
theorem dX4_definitionOf_23 : decode cX4_definitionOf 23 = .ok (.lcmp, 1) := by decide +kernel
theorem dX4_definitionOf_24 : decode cX4_definitionOf 24 = .ok (.ifCond .ne 5, 3) := by decide +kernel
theorem dX4_definitionOf_27 : decode cX4_definitionOf 27 = .ok (.iload_n 3, 1) := by decide +kernel
theorem dX4_definitionOf_28 : decode cX4_definitionOf 28 = .ok (.ireturn, 1) := by decide +kernel
theorem dX4_definitionOf_29 : decode cX4_definitionOf 29 = .ok (.iinc 3 1, 3) := by decide +kernel
theorem dX4_definitionOf_32 : decode cX4_definitionOf 32 = .ok (.goto (-30), 3) := by decide +kernel
theorem dX4_definitionOf_35 : decode cX4_definitionOf 35 = .ok (.iconst (-1), 1) := by decide +kernel
theorem dX4_definitionOf_36 : decode cX4_definitionOf 36 = .ok (.ireturn, 1) := by decide +kernel
theorem dX4_parametersOf_0 : decode cX4_parametersOf 0 = .ok (.iload_n 1, 1) := by decide +kernel
theorem dX4_parametersOf_1 : decode cX4_parametersOf 1 = .ok (.invokestatic 60, 3) := by decide +kernel
theorem dX4_parametersOf_4 : decode cX4_parametersOf 4 = .ok (.ifCond .eq 12, 3) := by decide +kernel
theorem dX4_parametersOf_7 : decode cX4_parametersOf 7 = .ok (.aload_n 0, 1) := by decide +kernel
theorem dX4_parametersOf_8 : decode cX4_parametersOf 8 = .ok (.getfield 15, 3) := by decide +kernel
theorem dX4_parametersOf_11 : decode cX4_parametersOf 11 = .ok (.iload_n 1, 1) := by decide +kernel
theorem dX4_parametersOf_12 : decode cX4_parametersOf 12 = .ok (.iaload, 1) := by decide +kernel
theorem dX4_parametersOf_13 : decode cX4_parametersOf 13 = .ok (.goto 4, 3) := by decide +kernel
theorem dX4_parametersOf_16 : decode cX4_parametersOf 16 = .ok (.iconst 0, 1) := by decide +kernel
theorem dX4_parametersOf_17 : decode cX4_parametersOf 17 = .ok (.ireturn, 1) := by decide +kernel
theorem dX4_nodesOf_0 : decode cX4_nodesOf 0 = .ok (.iload_n 1, 1) := by decide +kernel
theorem dX4_nodesOf_1 : decode cX4_nodesOf 1 = .ok (.invokestatic 60, 3) := by decide +kernel
theorem dX4_nodesOf_4 : decode cX4_nodesOf 4 = .ok (.ifCond .eq 12, 3) := by decide +kernel
theorem dX4_nodesOf_7 : decode cX4_nodesOf 7 = .ok (.aload_n 0, 1) := by decide +kernel
theorem dX4_nodesOf_8 : decode cX4_nodesOf 8 = .ok (.getfield 25, 3) := by decide +kernel
theorem dX4_nodesOf_11 : decode cX4_nodesOf 11 = .ok (.iload_n 1, 1) := by decide +kernel
theorem dX4_nodesOf_12 : decode cX4_nodesOf 12 = .ok (.iaload, 1) := by decide +kernel
theorem dX4_nodesOf_13 : decode cX4_nodesOf 13 = .ok (.goto 4, 3) := by decide +kernel
theorem dX4_nodesOf_16 : decode cX4_nodesOf 16 = .ok (.iconst 0, 1) := by decide +kernel
theorem dX4_nodesOf_17 : decode cX4_nodesOf 17 = .ok (.ireturn, 1) := by decide +kernel
theorem dX4_beginOf_0 : decode cX4_beginOf 0 = .ok (.iload_n 1, 1) := by decide +kernel
theorem dX4_beginOf_1 : decode cX4_beginOf 1 = .ok (.invokestatic 60, 3) := by decide +kernel
theorem dX4_beginOf_4 : decode cX4_beginOf 4 = .ok (.ifCond .eq 12, 3) := by decide +kernel
theorem dX4_beginOf_7 : decode cX4_beginOf 7 = .ok (.aload_n 0, 1) := by decide +kernel
theorem dX4_beginOf_8 : decode cX4_beginOf 8 = .ok (.getfield 19, 3) := by decide +kernel
theorem dX4_beginOf_11 : decode cX4_beginOf 11 = .ok (.iload_n 1, 1) := by decide +kernel
theorem dX4_beginOf_12 : decode cX4_beginOf 12 = .ok (.iaload, 1) := by decide +kernel
theorem dX4_beginOf_13 : decode cX4_beginOf 13 = .ok (.goto 4, 3) := by decide +kernel
theorem dX4_beginOf_16 : decode cX4_beginOf 16 = .ok (.iconst 0, 1) := by decide +kernel
theorem dX4_beginOf_17 : decode cX4_beginOf 17 = .ok (.ireturn, 1) := by decide +kernel
theorem dX4_endOf_0 : decode cX4_endOf 0 = .ok (.iload_n 1, 1) := by decide +kernel
theorem dX4_endOf_1 : decode cX4_endOf 1 = .ok (.invokestatic 60, 3) := by decide +kernel
theorem dX4_endOf_4 : decode cX4_endOf 4 = .ok (.ifCond .eq 12, 3) := by decide +kernel
theorem dX4_endOf_7 : decode cX4_endOf 7 = .ok (.aload_n 0, 1) := by decide +kernel
theorem dX4_endOf_8 : decode cX4_endOf 8 = .ok (.getfield 22, 3) := by decide +kernel
theorem dX4_endOf_11 : decode cX4_endOf 11 = .ok (.iload_n 1, 1) := by decide +kernel
theorem dX4_endOf_12 : decode cX4_endOf 12 = .ok (.iaload, 1) := by decide +kernel
theorem dX4_endOf_13 : decode cX4_endOf 13 = .ok (.goto 4, 3) := by decide +kernel
theorem dX4_endOf_16 : decode cX4_endOf 16 = .ok (.iconst 0, 1) := by decide +kernel
theorem dX4_endOf_17 : decode cX4_endOf 17 = .ok (.ireturn, 1) := by decide +kernel
theorem dX4_isDefinition_0 : decode cX4_isDefinition 0 = .ok (.iload_n 0, 1) := by decide +kernel
theorem dX4_isDefinition_1 : decode cX4_isDefinition 1 = .ok (.ifCond .lt 13, 3) := by decide +kernel
theorem dX4_isDefinition_4 : decode cX4_isDefinition 4 = .ok (.iload_n 0, 1) := by decide +kernel
theorem dX4_isDefinition_5 : decode cX4_isDefinition 5 = .ok (.bipush 20, 2) := by decide +kernel
theorem dX4_isDefinition_7 : decode cX4_isDefinition 7 = .ok (.if_icmp .ge 7, 3) := by decide +kernel
theorem dX4_isDefinition_10 : decode cX4_isDefinition 10 = .ok (.iconst 1, 1) := by decide +kernel
theorem dX4_isDefinition_11 : decode cX4_isDefinition 11 = .ok (.goto 4, 3) := by decide +kernel
theorem dX4_isDefinition_14 : decode cX4_isDefinition 14 = .ok (.iconst 0, 1) := by decide +kernel
theorem dX4_isDefinition_15 : decode cX4_isDefinition 15 = .ok (.ireturn, 1) := by decide +kernel
theorem dX4_addDeed_0 : decode cX4_addDeed 0 = .ok (.aload_n 0, 1) := by decide +kernel
theorem dX4_addDeed_1 : decode cX4_addDeed 1 = .ok (.iload_n 1, 1) := by decide +kernel
theorem dX4_addDeed_2 : decode cX4_addDeed 2 = .ok (.iload_n 2, 1) := by decide +kernel
theorem dX4_addDeed_3 : decode cX4_addDeed 3 = .ok (.lconst 0, 1) := by decide +kernel
theorem dX4_addDeed_4 : decode cX4_addDeed 4 = .ok (.iconst 0, 1) := by decide +kernel
theorem dX4_addDeed_5 : decode cX4_addDeed 5 = .ok (.invokevirtual 64, 3) := by decide +kernel
theorem dX4_addDeed_8 : decode cX4_addDeed 8 = .ok (.return_, 1) := by decide +kernel
theorem dX4_addName_0 : decode cX4_addName 0 = .ok (.aload_n 0, 1) := by decide +kernel
theorem dX4_addName_1 : decode cX4_addName 1 = .ok (.bipush 8, 2) := by decide +kernel
theorem dX4_addName_3 : decode cX4_addName 3 = .ok (.iconst 0, 1) := by decide +kernel
theorem dX4_addName_4 : decode cX4_addName 4 = .ok (.lload_n 1, 1) := by decide +kernel
theorem dX4_addName_5 : decode cX4_addName 5 = .ok (.iload_n 3, 1) := by decide +kernel
theorem dX4_addName_6 : decode cX4_addName 6 = .ok (.invokevirtual 64, 3) := by decide +kernel
theorem dX4_addName_9 : decode cX4_addName 9 = .ok (.return_, 1) := by decide +kernel
theorem dX4_addDeed__0 : decode cX4_addDeed_ 0 = .ok (.aload_n 0, 1) := by decide +kernel
theorem dX4_addDeed__1 : decode cX4_addDeed_ 1 = .ok (.getfield 47, 3) := by decide +kernel
theorem dX4_addDeed__4 : decode cX4_addDeed_ 4 = .ok (.sipush 800, 3) := by decide +kernel
theorem dX4_addDeed__7 : decode cX4_addDeed_ 7 = .ok (.if_icmp .ge 64, 3) := by decide +kernel
theorem dX4_addDeed__10 : decode cX4_addDeed_ 10 = .ok (.aload_n 0, 1) := by decide +kernel
theorem dX4_addDeed__11 : decode cX4_addDeed_ 11 = .ok (.getfield 32, 3) := by decide +kernel
theorem dX4_addDeed__14 : decode cX4_addDeed_ 14 = .ok (.aload_n 0, 1) := by decide +kernel
theorem dX4_addDeed__15 : decode cX4_addDeed_ 15 = .ok (.getfield 47, 3) := by decide +kernel
theorem dX4_addDeed__18 : decode cX4_addDeed_ 18 = .ok (.iload_n 1, 1) := by decide +kernel
theorem dX4_addDeed__19 : decode cX4_addDeed_ 19 = .ok (.iastore, 1) := by decide +kernel
theorem dX4_addDeed__20 : decode cX4_addDeed_ 20 = .ok (.aload_n 0, 1) := by decide +kernel
theorem dX4_addDeed__21 : decode cX4_addDeed_ 21 = .ok (.getfield 35, 3) := by decide +kernel
theorem dX4_addDeed__24 : decode cX4_addDeed_ 24 = .ok (.aload_n 0, 1) := by decide +kernel
theorem dX4_addDeed__25 : decode cX4_addDeed_ 25 = .ok (.getfield 47, 3) := by decide +kernel
theorem dX4_addDeed__28 : decode cX4_addDeed_ 28 = .ok (.iload_n 2, 1) := by decide +kernel
theorem dX4_addDeed__29 : decode cX4_addDeed_ 29 = .ok (.iastore, 1) := by decide +kernel
theorem dX4_addDeed__30 : decode cX4_addDeed_ 30 = .ok (.aload_n 0, 1) := by decide +kernel
theorem dX4_addDeed__31 : decode cX4_addDeed_ 31 = .ok (.getfield 38, 3) := by decide +kernel
theorem dX4_addDeed__34 : decode cX4_addDeed_ 34 = .ok (.aload_n 0, 1) := by decide +kernel
theorem dX4_addDeed__35 : decode cX4_addDeed_ 35 = .ok (.getfield 47, 3) := by decide +kernel
theorem dX4_addDeed__38 : decode cX4_addDeed_ 38 = .ok (.iconst 0, 1) := by decide +kernel
theorem dX4_addDeed__39 : decode cX4_addDeed_ 39 = .ok (.iastore, 1) := by decide +kernel
theorem dX4_addDeed__40 : decode cX4_addDeed_ 40 = .ok (.aload_n 0, 1) := by decide +kernel
theorem dX4_addDeed__41 : decode cX4_addDeed_ 41 = .ok (.getfield 41, 3) := by decide +kernel
theorem dX4_addDeed__44 : decode cX4_addDeed_ 44 = .ok (.aload_n 0, 1) := by decide +kernel
theorem dX4_addDeed__45 : decode cX4_addDeed_ 45 = .ok (.getfield 47, 3) := by decide +kernel
theorem dX4_addDeed__48 : decode cX4_addDeed_ 48 = .ok (.lload_n 3, 1) := by decide +kernel
theorem dX4_addDeed__49 : decode cX4_addDeed_ 49 = .ok (.lastore, 1) := by decide +kernel
theorem dX4_addDeed__50 : decode cX4_addDeed_ 50 = .ok (.aload_n 0, 1) := by decide +kernel
theorem dX4_addDeed__51 : decode cX4_addDeed_ 51 = .ok (.getfield 44, 3) := by decide +kernel
theorem dX4_addDeed__54 : decode cX4_addDeed_ 54 = .ok (.aload_n 0, 1) := by decide +kernel
theorem dX4_addDeed__55 : decode cX4_addDeed_ 55 = .ok (.getfield 47, 3) := by decide +kernel
theorem dX4_addDeed__58 : decode cX4_addDeed_ 58 = .ok (.iload 5, 2) := by decide +kernel
theorem dX4_addDeed__60 : decode cX4_addDeed_ 60 = .ok (.iastore, 1) := by decide +kernel
theorem dX4_addDeed__61 : decode cX4_addDeed_ 61 = .ok (.aload_n 0, 1) := by decide +kernel
theorem dX4_addDeed__62 : decode cX4_addDeed_ 62 = .ok (.dup, 1) := by decide +kernel
theorem dX4_addDeed__63 : decode cX4_addDeed_ 63 = .ok (.getfield 47, 3) := by decide +kernel
theorem dX4_addDeed__66 : decode cX4_addDeed_ 66 = .ok (.iconst 1, 1) := by decide +kernel
theorem dX4_addDeed__67 : decode cX4_addDeed_ 67 = .ok (.iadd, 1) := by decide +kernel
theorem dX4_addDeed__68 : decode cX4_addDeed_ 68 = .ok (.putfield 47, 3) := by decide +kernel
theorem dX4_addDeed__71 : decode cX4_addDeed_ 71 = .ok (.return_, 1) := by decide +kernel
theorem dX4_settlePointers_0 : decode cX4_settlePointers 0 = .ok (.iload_n 1, 1) := by decide +kernel
theorem dX4_settlePointers_1 : decode cX4_settlePointers 1 = .ok (.invokestatic 68, 3) := by decide +kernel
theorem dX4_settlePointers_4 : decode cX4_settlePointers 4 = .ok (.ifCond .eq 17, 3) := by decide +kernel
theorem dX4_settlePointers_7 : decode cX4_settlePointers 7 = .ok (.aload_n 0, 1) := by decide +kernel
theorem dX4_settlePointers_8 : decode cX4_settlePointers 8 = .ok (.getfield 35, 3) := by decide +kernel
theorem dX4_settlePointers_11 : decode cX4_settlePointers 11 = .ok (.iload_n 1, 1) := by decide +kernel
theorem dX4_settlePointers_12 : decode cX4_settlePointers 12 = .ok (.iload_n 2, 1) := by decide +kernel
theorem dX4_settlePointers_13 : decode cX4_settlePointers 13 = .ok (.iastore, 1) := by decide +kernel
theorem dX4_settlePointers_14 : decode cX4_settlePointers 14 = .ok (.aload_n 0, 1) := by decide +kernel
theorem dX4_settlePointers_15 : decode cX4_settlePointers 15 = .ok (.getfield 38, 3) := by decide +kernel
theorem dX4_settlePointers_18 : decode cX4_settlePointers 18 = .ok (.iload_n 1, 1) := by decide +kernel
theorem dX4_settlePointers_19 : decode cX4_settlePointers 19 = .ok (.iload_n 3, 1) := by decide +kernel
theorem dX4_settlePointers_20 : decode cX4_settlePointers 20 = .ok (.iastore, 1) := by decide +kernel
theorem dX4_settlePointers_21 : decode cX4_settlePointers 21 = .ok (.return_, 1) := by decide +kernel
theorem dX4_tell_0 : decode cX4_tell 0 = .ok (.iload_n 1, 1) := by decide +kernel
theorem dX4_tell_1 : decode cX4_tell 1 = .ok (.ifCond .ge 7, 3) := by decide +kernel
theorem dX4_tell_4 : decode cX4_tell 4 = .ok (.iconst 0, 1) := by decide +kernel
theorem dX4_tell_5 : decode cX4_tell 5 = .ok (.goto 4, 3) := by decide +kernel
theorem dX4_tell_8 : decode cX4_tell 8 = .ok (.iload_n 1, 1) := by decide +kernel
theorem dX4_tell_9 : decode cX4_tell 9 = .ok (.istore 6, 2) := by decide +kernel
theorem dX4_tell_11 : decode cX4_tell 11 = .ok (.iload 6, 2) := by decide +kernel
theorem dX4_tell_13 : decode cX4_tell 13 = .ok (.aload_n 0, 1) := by decide +kernel
theorem dX4_tell_14 : decode cX4_tell 14 = .ok (.getfield 47, 3) := by decide +kernel
theorem dX4_tell_17 : decode cX4_tell 17 = .ok (.if_icmp .ge 59, 3) := by decide +kernel
theorem dX4_tell_20 : decode cX4_tell 20 = .ok (.iload 6, 2) := by decide +kernel
theorem dX4_tell_22 : decode cX4_tell 22 = .ok (.sipush 800, 3) := by decide +kernel
theorem dX4_tell_25 : decode cX4_tell 25 = .ok (.if_icmp .ge 51, 3) := by decide +kernel
theorem dX4_tell_28 : decode cX4_tell 28 = .ok (.aload_n 0, 1) := by decide +kernel
theorem dX4_tell_29 : decode cX4_tell 29 = .ok (.getfield 32, 3) := by decide +kernel
theorem dX4_tell_32 : decode cX4_tell 32 = .ok (.iload 6, 2) := by decide +kernel
theorem dX4_tell_34 : decode cX4_tell 34 = .ok (.iaload, 1) := by decide +kernel
theorem dX4_tell_35 : decode cX4_tell 35 = .ok (.bipush 8, 2) := by decide +kernel
theorem dX4_tell_37 : decode cX4_tell 37 = .ok (.if_icmp .ne 33, 3) := by decide +kernel
theorem dX4_tell_40 : decode cX4_tell 40 = .ok (.aload_n 0, 1) := by decide +kernel
theorem dX4_tell_41 : decode cX4_tell 41 = .ok (.getfield 41, 3) := by decide +kernel
theorem dX4_tell_44 : decode cX4_tell 44 = .ok (.iload 6, 2) := by decide +kernel
theorem dX4_tell_46 : decode cX4_tell 46 = .ok (.laload, 1) := by decide +kernel
theorem dX4_tell_47 : decode cX4_tell 47 = .ok (.lload_n 2, 1) := by decide +kernel
theorem dX4_tell_48 : decode cX4_tell 48 = .ok (.lcmp, 1) := by decide +kernel
theorem dX4_tell_49 : decode cX4_tell 49 = .ok (.ifCond .ne 21, 3) := by decide +kernel
theorem dX4_tell_52 : decode cX4_tell 52 = .ok (.aload_n 0, 1) := by decide +kernel
theorem dX4_tell_53 : decode cX4_tell 53 = .ok (.getfield 32, 3) := by decide +kernel
theorem dX4_tell_56 : decode cX4_tell 56 = .ok (.iload 6, 2) := by decide +kernel
theorem dX4_tell_58 : decode cX4_tell 58 = .ok (.iload 4, 2) := by decide +kernel
theorem dX4_tell_60 : decode cX4_tell 60 = .ok (.iastore, 1) := by decide +kernel
theorem dX4_tell_61 : decode cX4_tell 61 = .ok (.aload_n 0, 1) := by decide +kernel
theorem dX4_tell_62 : decode cX4_tell 62 = .ok (.getfield 35, 3) := by decide +kernel
theorem dX4_tell_65 : decode cX4_tell 65 = .ok (.iload 6, 2) := by decide +kernel
theorem dX4_tell_67 : decode cX4_tell 67 = .ok (.iload 5, 2) := by decide +kernel
theorem dX4_tell_69 : decode cX4_tell 69 = .ok (.iastore, 1) := by decide +kernel
theorem dX4_tell_70 : decode cX4_tell 70 = .ok (.iinc 6 1, 3) := by decide +kernel
theorem dX4_tell_73 : decode cX4_tell 73 = .ok (.goto (-62), 3) := by decide +kernel
theorem dX4_tell_76 : decode cX4_tell 76 = .ok (.return_, 1) := by decide +kernel
theorem dX4_firstUntold_0 : decode cX4_firstUntold 0 = .ok (.iconst 0, 1) := by decide +kernel
theorem dX4_firstUntold_1 : decode cX4_firstUntold 1 = .ok (.istore_n 1, 1) := by decide +kernel
theorem dX4_firstUntold_2 : decode cX4_firstUntold 2 = .ok (.iload_n 1, 1) := by decide +kernel
theorem dX4_firstUntold_3 : decode cX4_firstUntold 3 = .ok (.aload_n 0, 1) := by decide +kernel
theorem dX4_firstUntold_4 : decode cX4_firstUntold 4 = .ok (.getfield 47, 3) := by decide +kernel
theorem dX4_firstUntold_7 : decode cX4_firstUntold 7 = .ok (.if_icmp .ge 34, 3) := by decide +kernel
theorem dX4_firstUntold_10 : decode cX4_firstUntold 10 = .ok (.iload_n 1, 1) := by decide +kernel
theorem dX4_firstUntold_11 : decode cX4_firstUntold 11 = .ok (.sipush 800, 3) := by decide +kernel
theorem dX4_firstUntold_14 : decode cX4_firstUntold 14 = .ok (.if_icmp .ge 27, 3) := by decide +kernel
theorem dX4_firstUntold_17 : decode cX4_firstUntold 17 = .ok (.aload_n 0, 1) := by decide +kernel
theorem dX4_firstUntold_18 : decode cX4_firstUntold 18 = .ok (.getfield 32, 3) := by decide +kernel
theorem dX4_firstUntold_21 : decode cX4_firstUntold 21 = .ok (.iload_n 1, 1) := by decide +kernel
theorem dX4_firstUntold_22 : decode cX4_firstUntold 22 = .ok (.iaload, 1) := by decide +kernel
theorem dX4_firstUntold_23 : decode cX4_firstUntold 23 = .ok (.bipush 8, 2) := by decide +kernel
theorem dX4_firstUntold_25 : decode cX4_firstUntold 25 = .ok (.if_icmp .ne 10, 3) := by decide +kernel
theorem dX4_firstUntold_28 : decode cX4_firstUntold 28 = .ok (.aload_n 0, 1) := by decide +kernel
theorem dX4_firstUntold_29 : decode cX4_firstUntold 29 = .ok (.getfield 44, 3) := by decide +kernel
theorem dX4_firstUntold_32 : decode cX4_firstUntold 32 = .ok (.iload_n 1, 1) := by decide +kernel
theorem dX4_firstUntold_33 : decode cX4_firstUntold 33 = .ok (.iaload, 1) := by decide +kernel
theorem dX4_firstUntold_34 : decode cX4_firstUntold 34 = .ok (.ireturn, 1) := by decide +kernel
theorem dX4_firstUntold_35 : decode cX4_firstUntold 35 = .ok (.iinc 1 1, 3) := by decide +kernel
theorem dX4_firstUntold_38 : decode cX4_firstUntold 38 = .ok (.goto (-36), 3) := by decide +kernel
theorem dX4_firstUntold_41 : decode cX4_firstUntold 41 = .ok (.iconst (-1), 1) := by decide +kernel
theorem dX4_firstUntold_42 : decode cX4_firstUntold 42 = .ok (.ireturn, 1) := by decide +kernel
theorem dX4_tellDefinitions_0 : decode cX4_tellDefinitions 0 = .ok (.iconst 0, 1) := by decide +kernel
theorem dX4_tellDefinitions_1 : decode cX4_tellDefinitions 1 = .ok (.istore_n 1, 1) := by decide +kernel
theorem dX4_tellDefinitions_2 : decode cX4_tellDefinitions 2 = .ok (.iload_n 1, 1) := by decide +kernel
theorem dX4_tellDefinitions_3 : decode cX4_tellDefinitions 3 = .ok (.aload_n 0, 1) := by decide +kernel
theorem dX4_tellDefinitions_4 : decode cX4_tellDefinitions 4 = .ok (.getfield 28, 3) := by decide +kernel
theorem dX4_tellDefinitions_7 : decode cX4_tellDefinitions 7 = .ok (.if_icmp .ge 28, 3) := by decide +kernel
theorem dX4_tellDefinitions_10 : decode cX4_tellDefinitions 10 = .ok (.iload_n 1, 1) := by decide +kernel
theorem dX4_tellDefinitions_11 : decode cX4_tellDefinitions 11 = .ok (.bipush 20, 2) := by decide +kernel
theorem dX4_tellDefinitions_13 : decode cX4_tellDefinitions 13 = .ok (.if_icmp .ge 22, 3) := by decide +kernel
theorem dX4_tellDefinitions_16 : decode cX4_tellDefinitions 16 = .ok (.aload_n 0, 1) := by decide +kernel
theorem dX4_tellDefinitions_17 : decode cX4_tellDefinitions 17 = .ok (.iconst 0, 1) := by decide +kernel
theorem dX4_tellDefinitions_18 : decode cX4_tellDefinitions 18 = .ok (.aload_n 0, 1) := by decide +kernel
theorem dX4_tellDefinitions_19 : decode cX4_tellDefinitions 19 = .ok (.getfield 9, 3) := by decide +kernel
theorem dX4_tellDefinitions_22 : decode cX4_tellDefinitions 22 = .ok (.iload_n 1, 1) := by decide +kernel
theorem dX4_tellDefinitions_23 : decode cX4_tellDefinitions 23 = .ok (.laload, 1) := by decide +kernel
theorem dX4_tellDefinitions_24 : decode cX4_tellDefinitions 24 = .ok (.iconst 2, 1) := by decide +kernel
theorem dX4_tellDefinitions_25 : decode cX4_tellDefinitions 25 = .ok (.iload_n 1, 1) := by decide +kernel
theorem dX4_tellDefinitions_26 : decode cX4_tellDefinitions 26 = .ok (.invokevirtual 71, 3) := by decide +kernel
theorem dX4_tellDefinitions_29 : decode cX4_tellDefinitions 29 = .ok (.iinc 1 1, 3) := by decide +kernel
theorem dX4_tellDefinitions_32 : decode cX4_tellDefinitions 32 = .ok (.goto (-30), 3) := by decide +kernel
theorem dX4_tellDefinitions_35 : decode cX4_tellDefinitions 35 = .ok (.return_, 1) := by decide +kernel
theorem dX4_deedAt_0 : decode cX4_deedAt 0 = .ok (.iload_n 1, 1) := by decide +kernel
theorem dX4_deedAt_1 : decode cX4_deedAt 1 = .ok (.invokestatic 68, 3) := by decide +kernel
theorem dX4_deedAt_4 : decode cX4_deedAt 4 = .ok (.ifCond .eq 12, 3) := by decide +kernel
theorem dX4_deedAt_7 : decode cX4_deedAt 7 = .ok (.aload_n 0, 1) := by decide +kernel
theorem dX4_deedAt_8 : decode cX4_deedAt 8 = .ok (.getfield 32, 3) := by decide +kernel
theorem dX4_deedAt_11 : decode cX4_deedAt 11 = .ok (.iload_n 1, 1) := by decide +kernel
theorem dX4_deedAt_12 : decode cX4_deedAt 12 = .ok (.iaload, 1) := by decide +kernel
theorem dX4_deedAt_13 : decode cX4_deedAt 13 = .ok (.goto 5, 3) := by decide +kernel
theorem dX4_deedAt_16 : decode cX4_deedAt 16 = .ok (.bipush 8, 2) := by decide +kernel
theorem dX4_deedAt_18 : decode cX4_deedAt 18 = .ok (.ireturn, 1) := by decide +kernel
theorem dX4_aboutAt_0 : decode cX4_aboutAt 0 = .ok (.iload_n 1, 1) := by decide +kernel
theorem dX4_aboutAt_1 : decode cX4_aboutAt 1 = .ok (.invokestatic 68, 3) := by decide +kernel
theorem dX4_aboutAt_4 : decode cX4_aboutAt 4 = .ok (.ifCond .eq 12, 3) := by decide +kernel
theorem dX4_aboutAt_7 : decode cX4_aboutAt 7 = .ok (.aload_n 0, 1) := by decide +kernel
theorem dX4_aboutAt_8 : decode cX4_aboutAt 8 = .ok (.getfield 35, 3) := by decide +kernel
theorem dX4_aboutAt_11 : decode cX4_aboutAt 11 = .ok (.iload_n 1, 1) := by decide +kernel
theorem dX4_aboutAt_12 : decode cX4_aboutAt 12 = .ok (.iaload, 1) := by decide +kernel
theorem dX4_aboutAt_13 : decode cX4_aboutAt 13 = .ok (.goto 4, 3) := by decide +kernel
theorem dX4_aboutAt_16 : decode cX4_aboutAt 16 = .ok (.iconst 0, 1) := by decide +kernel
theorem dX4_aboutAt_17 : decode cX4_aboutAt 17 = .ok (.ireturn, 1) := by decide +kernel
theorem dX4_firstSlotAt_0 : decode cX4_firstSlotAt 0 = .ok (.iload_n 1, 1) := by decide +kernel
theorem dX4_firstSlotAt_1 : decode cX4_firstSlotAt 1 = .ok (.invokestatic 68, 3) := by decide +kernel
theorem dX4_firstSlotAt_4 : decode cX4_firstSlotAt 4 = .ok (.ifCond .eq 12, 3) := by decide +kernel
theorem dX4_firstSlotAt_7 : decode cX4_firstSlotAt 7 = .ok (.aload_n 0, 1) := by decide +kernel
theorem dX4_firstSlotAt_8 : decode cX4_firstSlotAt 8 = .ok (.getfield 38, 3) := by decide +kernel
theorem dX4_firstSlotAt_11 : decode cX4_firstSlotAt 11 = .ok (.iload_n 1, 1) := by decide +kernel
theorem dX4_firstSlotAt_12 : decode cX4_firstSlotAt 12 = .ok (.iaload, 1) := by decide +kernel
theorem dX4_firstSlotAt_13 : decode cX4_firstSlotAt 13 = .ok (.goto 4, 3) := by decide +kernel
theorem dX4_firstSlotAt_16 : decode cX4_firstSlotAt 16 = .ok (.iconst 0, 1) := by decide +kernel
theorem dX4_firstSlotAt_17 : decode cX4_firstSlotAt 17 = .ok (.ireturn, 1) := by decide +kernel
theorem dX4_isDeed_0 : decode cX4_isDeed 0 = .ok (.iload_n 0, 1) := by decide +kernel
theorem dX4_isDeed_1 : decode cX4_isDeed 1 = .ok (.ifCond .lt 14, 3) := by decide +kernel
theorem dX4_isDeed_4 : decode cX4_isDeed 4 = .ok (.iload_n 0, 1) := by decide +kernel
theorem dX4_isDeed_5 : decode cX4_isDeed 5 = .ok (.sipush 800, 3) := by decide +kernel
theorem dX4_isDeed_8 : decode cX4_isDeed 8 = .ok (.if_icmp .ge 7, 3) := by decide +kernel
theorem dX4_isDeed_11 : decode cX4_isDeed 11 = .ok (.iconst 1, 1) := by decide +kernel
theorem dX4_isDeed_12 : decode cX4_isDeed 12 = .ok (.goto 4, 3) := by decide +kernel
theorem dX4_isDeed_15 : decode cX4_isDeed 15 = .ok (.iconst 0, 1) := by decide +kernel
theorem dX4_isDeed_16 : decode cX4_isDeed 16 = .ok (.ireturn, 1) := by decide +kernel
theorem dX5_init_0 : decode cX5_init 0 = .ok (.aload_n 0, 1) := by decide +kernel
theorem dX5_init_1 : decode cX5_init 1 = .ok (.invokespecial 3, 3) := by decide +kernel
theorem dX5_init_4 : decode cX5_init 4 = .ok (.aload_n 0, 1) := by decide +kernel
theorem dX5_init_5 : decode cX5_init 5 = .ok (.bipush 8, 2) := by decide +kernel
theorem dX5_init_7 : decode cX5_init 7 = .ok (.newarray .long, 2) := by decide +kernel
theorem dX5_init_9 : decode cX5_init 9 = .ok (.putfield 9, 3) := by decide +kernel
theorem dX5_init_12 : decode cX5_init 12 = .ok (.aload_n 0, 1) := by decide +kernel
theorem dX5_init_13 : decode cX5_init 13 = .ok (.bipush 72, 2) := by decide +kernel
theorem dX5_init_15 : decode cX5_init 15 = .ok (.newarray .long, 2) := by decide +kernel
theorem dX5_init_17 : decode cX5_init 17 = .ok (.putfield 15, 3) := by decide +kernel
theorem dX5_init_20 : decode cX5_init 20 = .ok (.aload_n 0, 1) := by decide +kernel
theorem dX5_init_21 : decode cX5_init 21 = .ok (.iconst 0, 1) := by decide +kernel
theorem dX5_init_22 : decode cX5_init 22 = .ok (.putfield 18, 3) := by decide +kernel
theorem dX5_init_25 : decode cX5_init 25 = .ok (.aload_n 0, 1) := by decide +kernel
theorem dX5_init_26 : decode cX5_init 26 = .ok (.iconst 0, 1) := by decide +kernel
theorem dX5_init_27 : decode cX5_init 27 = .ok (.putfield 22, 3) := by decide +kernel
theorem dX5_init_30 : decode cX5_init 30 = .ok (.aload_n 0, 1) := by decide +kernel
theorem dX5_init_31 : decode cX5_init 31 = .ok (.aload_n 1, 1) := by decide +kernel
theorem dX5_init_32 : decode cX5_init 32 = .ok (.putfield 25, 3) := by decide +kernel
theorem dX5_init_35 : decode cX5_init 35 = .ok (.aload_n 0, 1) := by decide +kernel
theorem dX5_init_36 : decode cX5_init 36 = .ok (.aload_n 2, 1) := by decide +kernel
theorem dX5_init_37 : decode cX5_init 37 = .ok (.putfield 29, 3) := by decide +kernel
theorem dX5_init_40 : decode cX5_init 40 = .ok (.return_, 1) := by decide +kernel
theorem dX5_faultFound_0 : decode cX5_faultFound 0 = .ok (.aload_n 0, 1) := by decide +kernel
theorem dX5_faultFound_1 : decode cX5_faultFound 1 = .ok (.getfield 18, 3) := by decide +kernel
theorem dX5_faultFound_4 : decode cX5_faultFound 4 = .ok (.ireturn, 1) := by decide +kernel
theorem dX5_faultPlace_0 : decode cX5_faultPlace 0 = .ok (.aload_n 0, 1) := by decide +kernel
theorem dX5_faultPlace_1 : decode cX5_faultPlace 1 = .ok (.getfield 22, 3) := by decide +kernel
