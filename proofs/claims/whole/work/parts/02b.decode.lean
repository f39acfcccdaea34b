theorem dX0_init_0 : decode cX0_init 0 = .ok (.aload_n 0, 1) := by decide +kernel
theorem dX0_init_1 : decode cX0_init 1 = .ok (.invokespecial 3, 3) := by decide +kernel
theorem dX0_init_4 : decode cX0_init 4 = .ok (.aload_n 0, 1) := by decide +kernel
theorem dX0_init_5 : decode cX0_init 5 = .ok (.iconst 0, 1) := by decide +kernel
theorem dX0_init_6 : decode cX0_init 6 = .ok (.putfield 9, 3) := by decide +kernel
theorem dX0_init_9 : decode cX0_init 9 = .ok (.aload_n 0, 1) := by decide +kernel
theorem dX0_init_10 : decode cX0_init 10 = .ok (.bipush 14, 2) := by decide +kernel
theorem dX0_init_12 : decode cX0_init 12 = .ok (.newarray .int, 2) := by decide +kernel
theorem dX0_init_14 : decode cX0_init 14 = .ok (.putfield 15, 3) := by decide +kernel
theorem dX0_init_17 : decode cX0_init 17 = .ok (.aload_n 0, 1) := by decide +kernel
theorem dX0_init_18 : decode cX0_init 18 = .ok (.bipush 14, 2) := by decide +kernel
theorem dX0_init_20 : decode cX0_init 20 = .ok (.newarray .int, 2) := by decide +kernel
theorem dX0_init_22 : decode cX0_init 22 = .ok (.putfield 19, 3) := by decide +kernel
theorem dX0_init_25 : decode cX0_init 25 = .ok (.aload_n 0, 1) := by decide +kernel
theorem dX0_init_26 : decode cX0_init 26 = .ok (.bipush 14, 2) := by decide +kernel
theorem dX0_init_28 : decode cX0_init 28 = .ok (.newarray .int, 2) := by decide +kernel
theorem dX0_init_30 : decode cX0_init 30 = .ok (.putfield 22, 3) := by decide +kernel
theorem dX0_init_33 : decode cX0_init 33 = .ok (.aload_n 0, 1) := by decide +kernel
theorem dX0_init_34 : decode cX0_init 34 = .ok (.bipush 14, 2) := by decide +kernel
theorem dX0_init_36 : decode cX0_init 36 = .ok (.newarray .int, 2) := by decide +kernel
theorem dX0_init_38 : decode cX0_init 38 = .ok (.putfield 25, 3) := by decide +kernel
theorem dX0_init_41 : decode cX0_init 41 = .ok (.aload_n 0, 1) := by decide +kernel
theorem dX0_init_42 : decode cX0_init 42 = .ok (.bipush 14, 2) := by decide +kernel
theorem dX0_init_44 : decode cX0_init 44 = .ok (.newarray .int, 2) := by decide +kernel
theorem dX0_init_46 : decode cX0_init 46 = .ok (.putfield 28, 3) := by decide +kernel
theorem dX0_init_49 : decode cX0_init 49 = .ok (.aload_n 0, 1) := by decide +kernel
theorem dX0_init_50 : decode cX0_init 50 = .ok (.bipush 14, 2) := by decide +kernel
theorem dX0_init_52 : decode cX0_init 52 = .ok (.newarray .int, 2) := by decide +kernel
theorem dX0_init_54 : decode cX0_init 54 = .ok (.putfield 31, 3) := by decide +kernel
theorem dX0_init_57 : decode cX0_init 57 = .ok (.aload_n 0, 1) := by decide +kernel
theorem dX0_init_58 : decode cX0_init 58 = .ok (.iconst 0, 1) := by decide +kernel
theorem dX0_init_59 : decode cX0_init 59 = .ok (.putfield 34, 3) := by decide +kernel
theorem dX0_init_62 : decode cX0_init 62 = .ok (.aload_n 0, 1) := by decide +kernel
theorem dX0_init_63 : decode cX0_init 63 = .ok (.iconst 0, 1) := by decide +kernel
theorem dX0_init_64 : decode cX0_init 64 = .ok (.putfield 37, 3) := by decide +kernel
theorem dX0_init_67 : decode cX0_init 67 = .ok (.aload_n 0, 1) := by decide +kernel
theorem dX0_init_68 : decode cX0_init 68 = .ok (.iconst 0, 1) := by decide +kernel
theorem dX0_init_69 : decode cX0_init 69 = .ok (.putfield 40, 3) := by decide +kernel
theorem dX0_init_72 : decode cX0_init 72 = .ok (.aload_n 0, 1) := by decide +kernel
theorem dX0_init_73 : decode cX0_init 73 = .ok (.iconst 1, 1) := by decide +kernel
theorem dX0_init_74 : decode cX0_init 74 = .ok (.putfield 43, 3) := by decide +kernel
theorem dX0_init_77 : decode cX0_init 77 = .ok (.aload_n 0, 1) := by decide +kernel
theorem dX0_init_78 : decode cX0_init 78 = .ok (.aconst_null, 1) := by decide +kernel
theorem dX0_init_79 : decode cX0_init 79 = .ok (.putfield 46, 3) := by decide +kernel
theorem dX0_init_82 : decode cX0_init 82 = .ok (.return_, 1) := by decide +kernel
theorem dX0_has_0 : decode cX0_has 0 = .ok (.iload_n 1, 1) := by decide +kernel
theorem dX0_has_1 : decode cX0_has 1 = .ok (.ifCond .lt 15, 3) := by decide +kernel
theorem dX0_has_4 : decode cX0_has 4 = .ok (.iload_n 1, 1) := by decide +kernel
theorem dX0_has_5 : decode cX0_has 5 = .ok (.aload_n 0, 1) := by decide +kernel
theorem dX0_has_6 : decode cX0_has 6 = .ok (.getfield 9, 3) := by decide +kernel
theorem dX0_has_9 : decode cX0_has 9 = .ok (.if_icmp .ge 7, 3) := by decide +kernel
theorem dX0_has_12 : decode cX0_has 12 = .ok (.iconst 1, 1) := by decide +kernel
theorem dX0_has_13 : decode cX0_has 13 = .ok (.goto 4, 3) := by decide +kernel
theorem dX0_has_16 : decode cX0_has 16 = .ok (.iconst 0, 1) := by decide +kernel
theorem dX0_has_17 : decode cX0_has 17 = .ok (.ireturn, 1) := by decide +kernel
theorem dX0_becomeAs_0 : decode cX0_becomeAs 0 = .ok (.aload_n 0, 1) := by decide +kernel
theorem dX0_becomeAs_1 : decode cX0_becomeAs 1 = .ok (.aload_n 1, 1) := by decide +kernel
theorem dX0_becomeAs_2 : decode cX0_becomeAs 2 = .ok (.getfield 9, 3) := by decide +kernel
theorem dX0_becomeAs_5 : decode cX0_becomeAs 5 = .ok (.putfield 9, 3) := by decide +kernel
theorem dX0_becomeAs_8 : decode cX0_becomeAs 8 = .ok (.aload_n 1, 1) := by decide +kernel
theorem dX0_becomeAs_9 : decode cX0_becomeAs 9 = .ok (.getfield 15, 3) := by decide +kernel
theorem dX0_becomeAs_12 : decode cX0_becomeAs 12 = .ok (.iconst 0, 1) := by decide +kernel
theorem dX0_becomeAs_13 : decode cX0_becomeAs 13 = .ok (.aload_n 0, 1) := by decide +kernel
theorem dX0_becomeAs_14 : decode cX0_becomeAs 14 = .ok (.getfield 15, 3) := by decide +kernel
theorem dX0_becomeAs_17 : decode cX0_becomeAs 17 = .ok (.iconst 0, 1) := by decide +kernel
theorem dX0_becomeAs_18 : decode cX0_becomeAs 18 = .ok (.bipush 14, 2) := by decide +kernel
theorem dX0_becomeAs_20 : decode cX0_becomeAs 20 = .ok (.invokestatic 50, 3) := by decide +kernel
theorem dX0_becomeAs_23 : decode cX0_becomeAs 23 = .ok (.aload_n 1, 1) := by decide +kernel
theorem dX0_becomeAs_24 : decode cX0_becomeAs 24 = .ok (.getfield 19, 3) := by decide +kernel
theorem dX0_becomeAs_27 : decode cX0_becomeAs 27 = .ok (.iconst 0, 1) := by decide +kernel
theorem dX0_becomeAs_28 : decode cX0_becomeAs 28 = .ok (.aload_n 0, 1) := by decide +kernel
theorem dX0_becomeAs_29 : decode cX0_becomeAs 29 = .ok (.getfield 19, 3) := by decide +kernel
theorem dX0_becomeAs_32 : decode cX0_becomeAs 32 = .ok (.iconst 0, 1) := by decide +kernel
theorem dX0_becomeAs_33 : decode cX0_becomeAs 33 = .ok (.bipush 14, 2) := by decide +kernel
theorem dX0_becomeAs_35 : decode cX0_becomeAs 35 = .ok (.invokestatic 50, 3) := by decide +kernel
theorem dX0_becomeAs_38 : decode cX0_becomeAs 38 = .ok (.aload_n 1, 1) := by decide +kernel
theorem dX0_becomeAs_39 : decode cX0_becomeAs 39 = .ok (.getfield 22, 3) := by decide +kernel
theorem dX0_becomeAs_42 : decode cX0_becomeAs 42 = .ok (.iconst 0, 1) := by decide +kernel
theorem dX0_becomeAs_43 : decode cX0_becomeAs 43 = .ok (.aload_n 0, 1) := by decide +kernel
theorem dX0_becomeAs_44 : decode cX0_becomeAs 44 = .ok (.getfield 22, 3) := by decide +kernel
theorem dX0_becomeAs_47 : decode cX0_becomeAs 47 = .ok (.iconst 0, 1) := by decide +kernel
theorem dX0_becomeAs_48 : decode cX0_becomeAs 48 = .ok (.bipush 14, 2) := by decide +kernel
theorem dX0_becomeAs_50 : decode cX0_becomeAs 50 = .ok (.invokestatic 50, 3) := by decide +kernel
theorem dX0_becomeAs_53 : decode cX0_becomeAs 53 = .ok (.aload_n 1, 1) := by decide +kernel
theorem dX0_becomeAs_54 : decode cX0_becomeAs 54 = .ok (.getfield 25, 3) := by decide +kernel
theorem dX0_becomeAs_57 : decode cX0_becomeAs 57 = .ok (.iconst 0, 1) := by decide +kernel
theorem dX0_becomeAs_58 : decode cX0_becomeAs 58 = .ok (.aload_n 0, 1) := by decide +kernel
theorem dX0_becomeAs_59 : decode cX0_becomeAs 59 = .ok (.getfield 25, 3) := by decide +kernel
theorem dX0_becomeAs_62 : decode cX0_becomeAs 62 = .ok (.iconst 0, 1) := by decide +kernel
theorem dX0_becomeAs_63 : decode cX0_becomeAs 63 = .ok (.bipush 14, 2) := by decide +kernel
theorem dX0_becomeAs_65 : decode cX0_becomeAs 65 = .ok (.invokestatic 50, 3) := by decide +kernel
theorem dX0_becomeAs_68 : decode cX0_becomeAs 68 = .ok (.aload_n 1, 1) := by decide +kernel
theorem dX0_becomeAs_69 : decode cX0_becomeAs 69 = .ok (.getfield 28, 3) := by decide +kernel
theorem dX0_becomeAs_72 : decode cX0_becomeAs 72 = .ok (.iconst 0, 1) := by decide +kernel
theorem dX0_becomeAs_73 : decode cX0_becomeAs 73 = .ok (.aload_n 0, 1) := by decide +kernel
theorem dX0_becomeAs_74 : decode cX0_becomeAs 74 = .ok (.getfield 28, 3) := by decide +kernel
theorem dX0_becomeAs_77 : decode cX0_becomeAs 77 = .ok (.iconst 0, 1) := by decide +kernel
theorem dX0_becomeAs_78 : decode cX0_becomeAs 78 = .ok (.bipush 14, 2) := by decide +kernel
theorem dX0_becomeAs_80 : decode cX0_becomeAs 80 = .ok (.invokestatic 50, 3) := by decide +kernel
theorem dX0_becomeAs_83 : decode cX0_becomeAs 83 = .ok (.aload_n 1, 1) := by decide +kernel
theorem dX0_becomeAs_84 : decode cX0_becomeAs 84 = .ok (.getfield 31, 3) := by decide +kernel
theorem dX0_becomeAs_87 : decode cX0_becomeAs 87 = .ok (.iconst 0, 1) := by decide +kernel
theorem dX0_becomeAs_88 : decode cX0_becomeAs 88 = .ok (.aload_n 0, 1) := by decide +kernel
theorem dX0_becomeAs_89 : decode cX0_becomeAs 89 = .ok (.getfield 31, 3) := by decide +kernel
theorem dX0_becomeAs_92 : decode cX0_becomeAs 92 = .ok (.iconst 0, 1) := by decide +kernel
theorem dX0_becomeAs_93 : decode cX0_becomeAs 93 = .ok (.bipush 14, 2) := by decide +kernel
theorem dX0_becomeAs_95 : decode cX0_becomeAs 95 = .ok (.invokestatic 50, 3) := by decide +kernel
theorem dX0_becomeAs_98 : decode cX0_becomeAs 98 = .ok (.aload_n 0, 1) := by decide +kernel
theorem dX0_becomeAs_99 : decode cX0_becomeAs 99 = .ok (.aload_n 1, 1) := by decide +kernel
theorem dX0_becomeAs_100 : decode cX0_becomeAs 100 = .ok (.getfield 34, 3) := by decide +kernel
theorem dX0_becomeAs_103 : decode cX0_becomeAs 103 = .ok (.putfield 34, 3) := by decide +kernel
theorem dX0_becomeAs_106 : decode cX0_becomeAs 106 = .ok (.aload_n 0, 1) := by decide +kernel
theorem dX0_becomeAs_107 : decode cX0_becomeAs 107 = .ok (.aload_n 1, 1) := by decide +kernel
theorem dX0_becomeAs_108 : decode cX0_becomeAs 108 = .ok (.getfield 37, 3) := by decide +kernel
theorem dX0_becomeAs_111 : decode cX0_becomeAs 111 = .ok (.putfield 37, 3) := by decide +kernel
theorem dX0_becomeAs_114 : decode cX0_becomeAs 114 = .ok (.aload_n 0, 1) := by decide +kernel
theorem dX0_becomeAs_115 : decode cX0_becomeAs 115 = .ok (.aload_n 1, 1) := by decide +kernel
theorem dX0_becomeAs_116 : decode cX0_becomeAs 116 = .ok (.getfield 40, 3) := by decide +kernel
theorem dX0_becomeAs_119 : decode cX0_becomeAs 119 = .ok (.putfield 40, 3) := by decide +kernel
theorem dX0_becomeAs_122 : decode cX0_becomeAs 122 = .ok (.aload_n 0, 1) := by decide +kernel
theorem dX0_becomeAs_123 : decode cX0_becomeAs 123 = .ok (.aload_n 1, 1) := by decide +kernel
theorem dX0_becomeAs_124 : decode cX0_becomeAs 124 = .ok (.getfield 43, 3) := by decide +kernel
theorem dX0_becomeAs_127 : decode cX0_becomeAs 127 = .ok (.putfield 43, 3) := by decide +kernel
theorem dX0_becomeAs_130 : decode cX0_becomeAs 130 = .ok (.aload_n 0, 1) := by decide +kernel
theorem dX0_becomeAs_131 : decode cX0_becomeAs 131 = .ok (.aload_n 1, 1) := by decide +kernel
theorem dX0_becomeAs_132 : decode cX0_becomeAs 132 = .ok (.getfield 46, 3) := by decide +kernel
theorem dX0_becomeAs_135 : decode cX0_becomeAs 135 = .ok (.putfield 46, 3) := by decide +kernel
theorem dX0_becomeAs_138 : decode cX0_becomeAs 138 = .ok (.return_, 1) := by decide +kernel
theorem dX0_add_0 : decode cX0_add 0 = .ok (.aload_n 0, 1) := by decide +kernel
theorem dX0_add_1 : decode cX0_add 1 = .ok (.getfield 9, 3) := by decide +kernel
theorem dX0_add_4 : decode cX0_add 4 = .ok (.bipush 14, 2) := by decide +kernel
theorem dX0_add_6 : decode cX0_add 6 = .ok (.if_icmp .ne 6, 3) := by decide +kernel
theorem dX0_add_9 : decode cX0_add 9 = .ok (.ldc 56, 2) := by decide +kernel
theorem dX0_add_11 : decode cX0_add 11 = .ok (.ireturn, 1) := by decide +kernel
theorem dX0_add_12 : decode cX0_add 12 = .ok (.aload_n 0, 1) := by decide +kernel
theorem dX0_add_13 : decode cX0_add 13 = .ok (.getfield 9, 3) := by decide +kernel
theorem dX0_add_16 : decode cX0_add 16 = .ok (.istore 4, 2) := by decide +kernel
theorem dX0_add_18 : decode cX0_add 18 = .ok (.aload_n 0, 1) := by decide +kernel
theorem dX0_add_19 : decode cX0_add 19 = .ok (.dup, 1) := by decide +kernel
theorem dX0_add_20 : decode cX0_add 20 = .ok (.getfield 9, 3) := by decide +kernel
theorem dX0_add_23 : decode cX0_add 23 = .ok (.iconst 1, 1) := by decide +kernel
theorem dX0_add_24 : decode cX0_add 24 = .ok (.iadd, 1) := by decide +kernel
theorem dX0_add_25 : decode cX0_add 25 = .ok (.putfield 9, 3) := by decide +kernel
theorem dX0_add_28 : decode cX0_add 28 = .ok (.aload_n 0, 1) := by decide +kernel
theorem dX0_add_29 : decode cX0_add 29 = .ok (.getfield 31, 3) := by decide +kernel
theorem dX0_add_32 : decode cX0_add 32 = .ok (.iload 4, 2) := by decide +kernel
theorem dX0_add_34 : decode cX0_add 34 = .ok (.iload 4, 2) := by decide +kernel
theorem dX0_add_36 : decode cX0_add 36 = .ok (.iastore, 1) := by decide +kernel
theorem dX0_add_37 : decode cX0_add 37 = .ok (.aload_n 0, 1) := by decide +kernel
theorem dX0_add_38 : decode cX0_add 38 = .ok (.getfield 25, 3) := by decide +kernel
theorem dX0_add_41 : decode cX0_add 41 = .ok (.iload 4, 2) := by decide +kernel
theorem dX0_add_43 : decode cX0_add 43 = .ok (.iconst 0, 1) := by decide +kernel
theorem dX0_add_44 : decode cX0_add 44 = .ok (.iastore, 1) := by decide +kernel
theorem dX0_add_45 : decode cX0_add 45 = .ok (.aload_n 0, 1) := by decide +kernel
theorem dX0_add_46 : decode cX0_add 46 = .ok (.iload 4, 2) := by decide +kernel
theorem dX0_add_48 : decode cX0_add 48 = .ok (.iload_n 1, 1) := by decide +kernel
theorem dX0_add_49 : decode cX0_add 49 = .ok (.iload_n 2, 1) := by decide +kernel
theorem dX0_add_50 : decode cX0_add 50 = .ok (.iload_n 3, 1) := by decide +kernel
theorem dX0_add_51 : decode cX0_add 51 = .ok (.invokevirtual 57, 3) := by decide +kernel
theorem dX0_add_54 : decode cX0_add 54 = .ok (.iload 4, 2) := by decide +kernel
theorem dX0_add_56 : decode cX0_add 56 = .ok (.ireturn, 1) := by decide +kernel
theorem dX0_become_0 : decode cX0_become 0 = .ok (.aload_n 0, 1) := by decide +kernel
theorem dX0_become_1 : decode cX0_become 1 = .ok (.getfield 15, 3) := by decide +kernel
theorem dX0_become_4 : decode cX0_become 4 = .ok (.iload_n 1, 1) := by decide +kernel
theorem dX0_become_5 : decode cX0_become 5 = .ok (.iload_n 2, 1) := by decide +kernel
theorem dX0_become_6 : decode cX0_become 6 = .ok (.iastore, 1) := by decide +kernel
theorem dX0_become_7 : decode cX0_become 7 = .ok (.aload_n 0, 1) := by decide +kernel
theorem dX0_become_8 : decode cX0_become 8 = .ok (.getfield 19, 3) := by decide +kernel
theorem dX0_become_11 : decode cX0_become 11 = .ok (.iload_n 1, 1) := by decide +kernel
theorem dX0_become_12 : decode cX0_become 12 = .ok (.iload_n 3, 1) := by decide +kernel
theorem dX0_become_13 : decode cX0_become 13 = .ok (.iastore, 1) := by decide +kernel
theorem dX0_become_14 : decode cX0_become 14 = .ok (.aload_n 0, 1) := by decide +kernel
theorem dX0_become_15 : decode cX0_become 15 = .ok (.getfield 22, 3) := by decide +kernel
theorem dX0_become_18 : decode cX0_become 18 = .ok (.iload_n 1, 1) := by decide +kernel
theorem dX0_become_19 : decode cX0_become 19 = .ok (.iload 4, 2) := by decide +kernel
theorem dX0_become_21 : decode cX0_become 21 = .ok (.iastore, 1) := by decide +kernel
theorem dX0_become_22 : decode cX0_become 22 = .ok (.aload_n 0, 1) := by decide +kernel
theorem dX0_become_23 : decode cX0_become 23 = .ok (.iload_n 1, 1) := by decide +kernel
theorem dX0_become_24 : decode cX0_become 24 = .ok (.invokevirtual 61, 3) := by decide +kernel
theorem dX0_become_27 : decode cX0_become 27 = .ok (.return_, 1) := by decide +kernel
theorem dX0_obey_0 : decode cX0_obey 0 = .ok (.aload_n 0, 1) := by decide +kernel
theorem dX0_obey_1 : decode cX0_obey 1 = .ok (.aload_n 1, 1) := by decide +kernel
theorem dX0_obey_2 : decode cX0_obey 2 = .ok (.putfield 46, 3) := by decide +kernel
theorem dX0_obey_5 : decode cX0_obey 5 = .ok (.iconst 0, 1) := by decide +kernel
theorem dX0_obey_6 : decode cX0_obey 6 = .ok (.istore_n 2, 1) := by decide +kernel
theorem dX0_obey_7 : decode cX0_obey 7 = .ok (.iload_n 2, 1) := by decide +kernel
theorem dX0_obey_8 : decode cX0_obey 8 = .ok (.aload_n 0, 1) := by decide +kernel
theorem dX0_obey_9 : decode cX0_obey 9 = .ok (.getfield 9, 3) := by decide +kernel
theorem dX0_obey_12 : decode cX0_obey 12 = .ok (.if_icmp .ge 14, 3) := by decide +kernel
theorem dX0_obey_15 : decode cX0_obey 15 = .ok (.aload_n 0, 1) := by decide +kernel
theorem dX0_obey_16 : decode cX0_obey 16 = .ok (.iload_n 2, 1) := by decide +kernel
theorem dX0_obey_17 : decode cX0_obey 17 = .ok (.invokevirtual 61, 3) := by decide +kernel
theorem dX0_obey_20 : decode cX0_obey 20 = .ok (.iinc 2 1, 3) := by decide +kernel
theorem dX0_obey_23 : decode cX0_obey 23 = .ok (.goto (-16), 3) := by decide +kernel
theorem dX0_obey_26 : decode cX0_obey 26 = .ok (.return_, 1) := by decide +kernel
theorem dX0_weigh_0 : decode cX0_weigh 0 = .ok (.aload_n 0, 1) := by decide +kernel
theorem dX0_weigh_1 : decode cX0_weigh 1 = .ok (.getfield 46, 3) := by decide +kernel
theorem dX0_weigh_4 : decode cX0_weigh 4 = .ok (.ifnonnull 12, 3) := by decide +kernel
theorem dX0_weigh_7 : decode cX0_weigh 7 = .ok (.aload_n 0, 1) := by decide +kernel
theorem dX0_weigh_8 : decode cX0_weigh 8 = .ok (.getfield 19, 3) := by decide +kernel
theorem dX0_weigh_11 : decode cX0_weigh 11 = .ok (.iload_n 1, 1) := by decide +kernel
theorem dX0_weigh_12 : decode cX0_weigh 12 = .ok (.iaload, 1) := by decide +kernel
theorem dX0_weigh_13 : decode cX0_weigh 13 = .ok (.goto 28, 3) := by decide +kernel
theorem dX0_weigh_16 : decode cX0_weigh 16 = .ok (.aload_n 0, 1) := by decide +kernel
theorem dX0_weigh_17 : decode cX0_weigh 17 = .ok (.getfield 46, 3) := by decide +kernel
theorem dX0_weigh_20 : decode cX0_weigh 20 = .ok (.aload_n 0, 1) := by decide +kernel
theorem dX0_weigh_21 : decode cX0_weigh 21 = .ok (.getfield 19, 3) := by decide +kernel
theorem dX0_weigh_24 : decode cX0_weigh 24 = .ok (.iload_n 1, 1) := by decide +kernel
theorem dX0_weigh_25 : decode cX0_weigh 25 = .ok (.iaload, 1) := by decide +kernel
theorem dX0_weigh_26 : decode cX0_weigh 26 = .ok (.aload_n 0, 1) := by decide +kernel
theorem dX0_weigh_27 : decode cX0_weigh 27 = .ok (.getfield 22, 3) := by decide +kernel
theorem dX0_weigh_30 : decode cX0_weigh 30 = .ok (.iload_n 1, 1) := by decide +kernel
theorem dX0_weigh_31 : decode cX0_weigh 31 = .ok (.iaload, 1) := by decide +kernel
theorem dX0_weigh_32 : decode cX0_weigh 32 = .ok (.aload_n 0, 1) := by decide +kernel
theorem dX0_weigh_33 : decode cX0_weigh 33 = .ok (.getfield 25, 3) := by decide +kernel
theorem dX0_weigh_36 : decode cX0_weigh 36 = .ok (.iload_n 1, 1) := by decide +kernel
theorem dX0_weigh_37 : decode cX0_weigh 37 = .ok (.iaload, 1) := by decide +kernel
theorem dX0_weigh_38 : decode cX0_weigh 38 = .ok (.invokevirtual 65, 3) := by decide +kernel
theorem dX0_weigh_41 : decode cX0_weigh 41 = .ok (.istore_n 2, 1) := by decide +kernel
theorem dX0_weigh_42 : decode cX0_weigh 42 = .ok (.aload_n 0, 1) := by decide +kernel
theorem dX0_weigh_43 : decode cX0_weigh 43 = .ok (.getfield 28, 3) := by decide +kernel
theorem dX0_weigh_46 : decode cX0_weigh 46 = .ok (.iload_n 1, 1) := by decide +kernel
theorem dX0_weigh_47 : decode cX0_weigh 47 = .ok (.aload_n 0, 1) := by decide +kernel
theorem dX0_weigh_48 : decode cX0_weigh 48 = .ok (.getfield 15, 3) := by decide +kernel
theorem dX0_weigh_51 : decode cX0_weigh 51 = .ok (.iload_n 1, 1) := by decide +kernel
theorem dX0_weigh_52 : decode cX0_weigh 52 = .ok (.iaload, 1) := by decide +kernel
theorem dX0_weigh_53 : decode cX0_weigh 53 = .ok (.iload_n 2, 1) := by decide +kernel
theorem dX0_weigh_54 : decode cX0_weigh 54 = .ok (.iconst 0, 1) := by decide +kernel
theorem dX0_weigh_55 : decode cX0_weigh 55 = .ok (.sipush 999, 3) := by decide +kernel
theorem dX0_weigh_58 : decode cX0_weigh 58 = .ok (.invokestatic 71, 3) := by decide +kernel
theorem dX0_weigh_61 : decode cX0_weigh 61 = .ok (.invokestatic 74, 3) := by decide +kernel
theorem dX0_weigh_64 : decode cX0_weigh 64 = .ok (.iastore, 1) := by decide +kernel
theorem dX0_weigh_65 : decode cX0_weigh 65 = .ok (.return_, 1) := by decide +kernel
theorem dX0_placeOf_0 : decode cX0_placeOf 0 = .ok (.iconst 0, 1) := by decide +kernel
theorem dX0_placeOf_1 : decode cX0_placeOf 1 = .ok (.istore_n 2, 1) := by decide +kernel
theorem dX0_placeOf_2 : decode cX0_placeOf 2 = .ok (.iload_n 2, 1) := by decide +kernel
theorem dX0_placeOf_3 : decode cX0_placeOf 3 = .ok (.aload_n 0, 1) := by decide +kernel
theorem dX0_placeOf_4 : decode cX0_placeOf 4 = .ok (.getfield 9, 3) := by decide +kernel
theorem dX0_placeOf_7 : decode cX0_placeOf 7 = .ok (.if_icmp .ge 21, 3) := by decide +kernel
theorem dX0_placeOf_10 : decode cX0_placeOf 10 = .ok (.aload_n 0, 1) := by decide +kernel
theorem dX0_placeOf_11 : decode cX0_placeOf 11 = .ok (.getfield 31, 3) := by decide +kernel
theorem dX0_placeOf_14 : decode cX0_placeOf 14 = .ok (.iload_n 2, 1) := by decide +kernel
theorem dX0_placeOf_15 : decode cX0_placeOf 15 = .ok (.iaload, 1) := by decide +kernel
theorem dX0_placeOf_16 : decode cX0_placeOf 16 = .ok (.iload_n 1, 1) := by decide +kernel
theorem dX0_placeOf_17 : decode cX0_placeOf 17 = .ok (.if_icmp .ne 5, 3) := by decide +kernel
theorem dX0_placeOf_20 : decode cX0_placeOf 20 = .ok (.iload_n 2, 1) := by decide +kernel
theorem dX0_placeOf_21 : decode cX0_placeOf 21 = .ok (.ireturn, 1) := by decide +kernel
theorem dX0_placeOf_22 : decode cX0_placeOf 22 = .ok (.iinc 2 1, 3) := by decide +kernel
theorem dX0_placeOf_25 : decode cX0_placeOf 25 = .ok (.goto (-23), 3) := by decide +kernel
theorem dX0_placeOf_28 : decode cX0_placeOf 28 = .ok (.ldc 79, 2) := by decide +kernel
theorem dX0_placeOf_30 : decode cX0_placeOf 30 = .ok (.ireturn, 1) := by decide +kernel
theorem dX0_move_0 : decode cX0_move 0 = .ok (.aload_n 0, 1) := by decide +kernel
theorem dX0_move_1 : decode cX0_move 1 = .ok (.iload_n 1, 1) := by decide +kernel
theorem dX0_move_2 : decode cX0_move 2 = .ok (.invokevirtual 80, 3) := by decide +kernel
theorem dX0_move_5 : decode cX0_move 5 = .ok (.ifCond .eq 11, 3) := by decide +kernel
theorem dX0_move_8 : decode cX0_move 8 = .ok (.aload_n 0, 1) := by decide +kernel
theorem dX0_move_9 : decode cX0_move 9 = .ok (.iload_n 2, 1) := by decide +kernel
theorem dX0_move_10 : decode cX0_move 10 = .ok (.invokevirtual 80, 3) := by decide +kernel
theorem dX0_move_13 : decode cX0_move 13 = .ok (.ifCond .ne 4, 3) := by decide +kernel
theorem dX0_move_16 : decode cX0_move 16 = .ok (.return_, 1) := by decide +kernel
theorem dX0_move_17 : decode cX0_move 17 = .ok (.aload_n 0, 1) := by decide +kernel
theorem dX0_move_18 : decode cX0_move 18 = .ok (.getfield 31, 3) := by decide +kernel
theorem dX0_move_21 : decode cX0_move 21 = .ok (.iload_n 1, 1) := by decide +kernel
theorem dX0_move_22 : decode cX0_move 22 = .ok (.iaload, 1) := by decide +kernel
theorem dX0_move_23 : decode cX0_move 23 = .ok (.istore_n 3, 1) := by decide +kernel
theorem dX0_move_24 : decode cX0_move 24 = .ok (.iload_n 1, 1) := by decide +kernel
theorem dX0_move_25 : decode cX0_move 25 = .ok (.istore 4, 2) := by decide +kernel
theorem dX0_move_27 : decode cX0_move 27 = .ok (.iload 4, 2) := by decide +kernel
theorem dX0_move_29 : decode cX0_move 29 = .ok (.iload_n 2, 1) := by decide +kernel
theorem dX0_move_30 : decode cX0_move 30 = .ok (.if_icmp .ge 25, 3) := by decide +kernel
theorem dX0_move_33 : decode cX0_move 33 = .ok (.aload_n 0, 1) := by decide +kernel
theorem dX0_move_34 : decode cX0_move 34 = .ok (.getfield 31, 3) := by decide +kernel
theorem dX0_move_37 : decode cX0_move 37 = .ok (.iload 4, 2) := by decide +kernel
theorem dX0_move_39 : decode cX0_move 39 = .ok (.aload_n 0, 1) := by decide +kernel
theorem dX0_move_40 : decode cX0_move 40 = .ok (.getfield 31, 3) := by decide +kernel
theorem dX0_move_43 : decode cX0_move 43 = .ok (.iload 4, 2) := by decide +kernel
theorem dX0_move_45 : decode cX0_move 45 = .ok (.iconst 1, 1) := by decide +kernel
theorem dX0_move_46 : decode cX0_move 46 = .ok (.iadd, 1) := by decide +kernel
theorem dX0_move_47 : decode cX0_move 47 = .ok (.iaload, 1) := by decide +kernel
theorem dX0_move_48 : decode cX0_move 48 = .ok (.iastore, 1) := by decide +kernel
theorem dX0_move_49 : decode cX0_move 49 = .ok (.iinc 4 1, 3) := by decide +kernel
theorem dX0_move_52 : decode cX0_move 52 = .ok (.goto (-25), 3) := by decide +kernel
theorem dX0_move_55 : decode cX0_move 55 = .ok (.iload_n 1, 1) := by decide +kernel
theorem dX0_move_56 : decode cX0_move 56 = .ok (.istore 4, 2) := by decide +kernel
theorem dX0_move_58 : decode cX0_move 58 = .ok (.iload 4, 2) := by decide +kernel
theorem dX0_move_60 : decode cX0_move 60 = .ok (.iload_n 2, 1) := by decide +kernel
theorem dX0_move_61 : decode cX0_move 61 = .ok (.if_icmp .le 25, 3) := by decide +kernel
theorem dX0_move_64 : decode cX0_move 64 = .ok (.aload_n 0, 1) := by decide +kernel
theorem dX0_move_65 : decode cX0_move 65 = .ok (.getfield 31, 3) := by decide +kernel
theorem dX0_move_68 : decode cX0_move 68 = .ok (.iload 4, 2) := by decide +kernel
theorem dX0_move_70 : decode cX0_move 70 = .ok (.aload_n 0, 1) := by decide +kernel
theorem dX0_move_71 : decode cX0_move 71 = .ok (.getfield 31, 3) := by decide +kernel
theorem dX0_move_74 : decode cX0_move 74 = .ok (.iload 4, 2) := by decide +kernel
theorem dX0_move_76 : decode cX0_move 76 = .ok (.iconst 1, 1) := by decide +kernel
theorem dX0_move_77 : decode cX0_move 77 = .ok (.isub, 1) := by decide +kernel
theorem dX0_move_78 : decode cX0_move 78 = .ok (.iaload, 1) := by decide +kernel
theorem dX0_move_79 : decode cX0_move 79 = .ok (.iastore, 1) := by decide +kernel
theorem dX0_move_80 : decode cX0_move 80 = .ok (.iinc 4 (-1), 3) := by decide +kernel
theorem dX0_move_83 : decode cX0_move 83 = .ok (.goto (-25), 3) := by decide +kernel
theorem dX0_move_86 : decode cX0_move 86 = .ok (.aload_n 0, 1) := by decide +kernel
theorem dX0_move_87 : decode cX0_move 87 = .ok (.getfield 31, 3) := by decide +kernel
theorem dX0_move_90 : decode cX0_move 90 = .ok (.iload_n 2, 1) := by decide +kernel
theorem dX0_move_91 : decode cX0_move 91 = .ok (.iload_n 3, 1) := by decide +kernel
theorem dX0_move_92 : decode cX0_move 92 = .ok (.iastore, 1) := by decide +kernel
theorem dX0_move_93 : decode cX0_move 93 = .ok (.return_, 1) := by decide +kernel
theorem dX0_turnOver_0 : decode cX0_turnOver 0 = .ok (.iconst 0, 1) := by decide +kernel
theorem dX0_turnOver_1 : decode cX0_turnOver 1 = .ok (.istore_n 1, 1) := by decide +kernel
theorem dX0_turnOver_2 : decode cX0_turnOver 2 = .ok (.iload_n 1, 1) := by decide +kernel
theorem dX0_turnOver_3 : decode cX0_turnOver 3 = .ok (.aload_n 0, 1) := by decide +kernel
theorem dX0_turnOver_4 : decode cX0_turnOver 4 = .ok (.getfield 9, 3) := by decide +kernel
theorem dX0_turnOver_7 : decode cX0_turnOver 7 = .ok (.iconst 2, 1) := by decide +kernel
theorem dX0_turnOver_8 : decode cX0_turnOver 8 = .ok (.idiv, 1) := by decide +kernel
theorem dX0_turnOver_9 : decode cX0_turnOver 9 = .ok (.if_icmp .ge 22, 3) := by decide +kernel
theorem dX0_turnOver_12 : decode cX0_turnOver 12 = .ok (.aload_n 0, 1) := by decide +kernel
theorem dX0_turnOver_13 : decode cX0_turnOver 13 = .ok (.iload_n 1, 1) := by decide +kernel
theorem dX0_turnOver_14 : decode cX0_turnOver 14 = .ok (.aload_n 0, 1) := by decide +kernel
theorem dX0_turnOver_15 : decode cX0_turnOver 15 = .ok (.getfield 9, 3) := by decide +kernel
theorem dX0_turnOver_18 : decode cX0_turnOver 18 = .ok (.iconst 1, 1) := by decide +kernel
theorem dX0_turnOver_19 : decode cX0_turnOver 19 = .ok (.isub, 1) := by decide +kernel
theorem dX0_turnOver_20 : decode cX0_turnOver 20 = .ok (.iload_n 1, 1) := by decide +kernel
theorem dX0_turnOver_21 : decode cX0_turnOver 21 = .ok (.isub, 1) := by decide +kernel
theorem dX0_turnOver_22 : decode cX0_turnOver 22 = .ok (.invokevirtual 84, 3) := by decide +kernel
theorem dX0_turnOver_25 : decode cX0_turnOver 25 = .ok (.iinc 1 1, 3) := by decide +kernel
theorem dX0_turnOver_28 : decode cX0_turnOver 28 = .ok (.goto (-26), 3) := by decide +kernel
theorem dX0_turnOver_31 : decode cX0_turnOver 31 = .ok (.return_, 1) := by decide +kernel
theorem dX0_swap_0 : decode cX0_swap 0 = .ok (.aload_n 0, 1) := by decide +kernel
theorem dX0_swap_1 : decode cX0_swap 1 = .ok (.getfield 31, 3) := by decide +kernel
theorem dX0_swap_4 : decode cX0_swap 4 = .ok (.iload_n 1, 1) := by decide +kernel
theorem dX0_swap_5 : decode cX0_swap 5 = .ok (.iaload, 1) := by decide +kernel
theorem dX0_swap_6 : decode cX0_swap 6 = .ok (.istore_n 3, 1) := by decide +kernel
theorem dX0_swap_7 : decode cX0_swap 7 = .ok (.aload_n 0, 1) := by decide +kernel
theorem dX0_swap_8 : decode cX0_swap 8 = .ok (.getfield 31, 3) := by decide +kernel
theorem dX0_swap_11 : decode cX0_swap 11 = .ok (.iload_n 1, 1) := by decide +kernel
theorem dX0_swap_12 : decode cX0_swap 12 = .ok (.aload_n 0, 1) := by decide +kernel
theorem dX0_swap_13 : decode cX0_swap 13 = .ok (.getfield 31, 3) := by decide +kernel
theorem dX0_swap_16 : decode cX0_swap 16 = .ok (.iload_n 2, 1) := by decide +kernel
theorem dX0_swap_17 : decode cX0_swap 17 = .ok (.iaload, 1) := by decide +kernel
theorem dX0_swap_18 : decode cX0_swap 18 = .ok (.iastore, 1) := by decide +kernel
theorem dX0_swap_19 : decode cX0_swap 19 = .ok (.aload_n 0, 1) := by decide +kernel
theorem dX0_swap_20 : decode cX0_swap 20 = .ok (.getfield 31, 3) := by decide +kernel
theorem dX0_swap_23 : decode cX0_swap 23 = .ok (.iload_n 2, 1) := by decide +kernel
theorem dX0_swap_24 : decode cX0_swap 24 = .ok (.iload_n 3, 1) := by decide +kernel
theorem dX0_swap_25 : decode cX0_swap 25 = .ok (.iastore, 1) := by decide +kernel
theorem dX0_swap_26 : decode cX0_swap 26 = .ok (.return_, 1) := by decide +kernel
theorem dX0_draw_0 : decode cX0_draw 0 = .ok (.aload_n 0, 1) := by decide +kernel
theorem dX0_draw_1 : decode cX0_draw 1 = .ok (.aload_n 0, 1) := by decide +kernel
theorem dX0_draw_2 : decode cX0_draw 2 = .ok (.getfield 43, 3) := by decide +kernel
theorem dX0_draw_5 : decode cX0_draw 5 = .ok (.ldc 88, 2) := by decide +kernel
theorem dX0_draw_7 : decode cX0_draw 7 = .ok (.imul, 1) := by decide +kernel
theorem dX0_draw_8 : decode cX0_draw 8 = .ok (.sipush 12345, 3) := by decide +kernel
theorem dX0_draw_11 : decode cX0_draw 11 = .ok (.iadd, 1) := by decide +kernel
theorem dX0_draw_12 : decode cX0_draw 12 = .ok (.putfield 43, 3) := by decide +kernel
theorem dX0_draw_15 : decode cX0_draw 15 = .ok (.aload_n 0, 1) := by decide +kernel
theorem dX0_draw_16 : decode cX0_draw 16 = .ok (.getfield 43, 3) := by decide +kernel
theorem dX0_draw_19 : decode cX0_draw 19 = .ok (.bipush 8, 2) := by decide +kernel
theorem dX0_draw_21 : decode cX0_draw 21 = .ok (.iushr, 1) := by decide +kernel
theorem dX0_draw_22 : decode cX0_draw 22 = .ok (.ireturn, 1) := by decide +kernel
theorem dX0_ride_0 : decode cX0_ride 0 = .ok (.iconst 0, 1) := by decide +kernel
theorem dX0_ride_1 : decode cX0_ride 1 = .ok (.istore_n 2, 1) := by decide +kernel
theorem dX0_ride_2 : decode cX0_ride 2 = .ok (.iload_n 2, 1) := by decide +kernel
theorem dX0_ride_3 : decode cX0_ride 3 = .ok (.iload_n 1, 1) := by decide +kernel
theorem dX0_ride_4 : decode cX0_ride 4 = .ok (.if_icmp .ge 13, 3) := by decide +kernel
theorem dX0_ride_7 : decode cX0_ride 7 = .ok (.aload_n 0, 1) := by decide +kernel
theorem dX0_ride_8 : decode cX0_ride 8 = .ok (.invokevirtual 89, 3) := by decide +kernel
theorem dX0_ride_11 : decode cX0_ride 11 = .ok (.iinc 2 1, 3) := by decide +kernel
theorem dX0_ride_14 : decode cX0_ride 14 = .ok (.goto (-12), 3) := by decide +kernel
theorem dX0_ride_17 : decode cX0_ride 17 = .ok (.return_, 1) := by decide +kernel
theorem dX0_joltOnce_0 : decode cX0_joltOnce 0 = .ok (.aload_n 0, 1) := by decide +kernel
theorem dX0_joltOnce_1 : decode cX0_joltOnce 1 = .ok (.getfield 40, 3) := by decide +kernel
theorem dX0_joltOnce_4 : decode cX0_joltOnce 4 = .ok (.iconst 2, 1) := by decide +kernel
theorem dX0_joltOnce_5 : decode cX0_joltOnce 5 = .ok (.irem, 1) := by decide +kernel
theorem dX0_joltOnce_6 : decode cX0_joltOnce 6 = .ok (.istore_n 1, 1) := by decide +kernel
theorem dX0_joltOnce_7 : decode cX0_joltOnce 7 = .ok (.iload_n 1, 1) := by decide +kernel
theorem dX0_joltOnce_8 : decode cX0_joltOnce 8 = .ok (.iconst 1, 1) := by decide +kernel
theorem dX0_joltOnce_9 : decode cX0_joltOnce 9 = .ok (.iadd, 1) := by decide +kernel
theorem dX0_joltOnce_10 : decode cX0_joltOnce 10 = .ok (.aload_n 0, 1) := by decide +kernel
theorem dX0_joltOnce_11 : decode cX0_joltOnce 11 = .ok (.getfield 9, 3) := by decide +kernel
theorem dX0_joltOnce_14 : decode cX0_joltOnce 14 = .ok (.if_icmp .ge 91, 3) := by decide +kernel
theorem dX0_joltOnce_17 : decode cX0_joltOnce 17 = .ok (.aload_n 0, 1) := by decide +kernel
theorem dX0_joltOnce_18 : decode cX0_joltOnce 18 = .ok (.iload_n 1, 1) := by decide +kernel
theorem dX0_joltOnce_19 : decode cX0_joltOnce 19 = .ok (.iconst 1, 1) := by decide +kernel
theorem dX0_joltOnce_20 : decode cX0_joltOnce 20 = .ok (.iadd, 1) := by decide +kernel
theorem dX0_joltOnce_21 : decode cX0_joltOnce 21 = .ok (.invokevirtual 92, 3) := by decide +kernel
theorem dX0_joltOnce_24 : decode cX0_joltOnce 24 = .ok (.ifCond .eq 75, 3) := by decide +kernel
theorem dX0_joltOnce_27 : decode cX0_joltOnce 27 = .ok (.aload_n 0, 1) := by decide +kernel
theorem dX0_joltOnce_28 : decode cX0_joltOnce 28 = .ok (.iload_n 1, 1) := by decide +kernel
theorem dX0_joltOnce_29 : decode cX0_joltOnce 29 = .ok (.iload_n 1, 1) := by decide +kernel
theorem dX0_joltOnce_30 : decode cX0_joltOnce 30 = .ok (.iconst 1, 1) := by decide +kernel
theorem dX0_joltOnce_31 : decode cX0_joltOnce 31 = .ok (.iadd, 1) := by decide +kernel
theorem dX0_joltOnce_32 : decode cX0_joltOnce 32 = .ok (.invokevirtual 84, 3) := by decide +kernel
theorem dX0_joltOnce_35 : decode cX0_joltOnce 35 = .ok (.aload_n 0, 1) := by decide +kernel
theorem dX0_joltOnce_36 : decode cX0_joltOnce 36 = .ok (.dup, 1) := by decide +kernel
theorem dX0_joltOnce_37 : decode cX0_joltOnce 37 = .ok (.getfield 37, 3) := by decide +kernel
theorem dX0_joltOnce_40 : decode cX0_joltOnce 40 = .ok (.iconst 1, 1) := by decide +kernel
theorem dX0_joltOnce_41 : decode cX0_joltOnce 41 = .ok (.iadd, 1) := by decide +kernel
theorem dX0_joltOnce_42 : decode cX0_joltOnce 42 = .ok (.putfield 37, 3) := by decide +kernel
theorem dX0_joltOnce_45 : decode cX0_joltOnce 45 = .ok (.aload_n 0, 1) := by decide +kernel
theorem dX0_joltOnce_46 : decode cX0_joltOnce 46 = .ok (.getfield 25, 3) := by decide +kernel
theorem dX0_joltOnce_49 : decode cX0_joltOnce 49 = .ok (.aload_n 0, 1) := by decide +kernel
theorem dX0_joltOnce_50 : decode cX0_joltOnce 50 = .ok (.getfield 31, 3) := by decide +kernel
theorem dX0_joltOnce_53 : decode cX0_joltOnce 53 = .ok (.iload_n 1, 1) := by decide +kernel
theorem dX0_joltOnce_54 : decode cX0_joltOnce 54 = .ok (.iaload, 1) := by decide +kernel
theorem dX0_joltOnce_55 : decode cX0_joltOnce 55 = .ok (.dup2, 1) := by decide +kernel
theorem dX0_joltOnce_56 : decode cX0_joltOnce 56 = .ok (.iaload, 1) := by decide +kernel
theorem dX0_joltOnce_57 : decode cX0_joltOnce 57 = .ok (.iconst 1, 1) := by decide +kernel
theorem dX0_joltOnce_58 : decode cX0_joltOnce 58 = .ok (.iadd, 1) := by decide +kernel
theorem dX0_joltOnce_59 : decode cX0_joltOnce 59 = .ok (.iastore, 1) := by decide +kernel
theorem dX0_joltOnce_60 : decode cX0_joltOnce 60 = .ok (.aload_n 0, 1) := by decide +kernel
theorem dX0_joltOnce_61 : decode cX0_joltOnce 61 = .ok (.getfield 25, 3) := by decide +kernel
theorem dX0_joltOnce_64 : decode cX0_joltOnce 64 = .ok (.aload_n 0, 1) := by decide +kernel
theorem dX0_joltOnce_65 : decode cX0_joltOnce 65 = .ok (.getfield 31, 3) := by decide +kernel
theorem dX0_joltOnce_68 : decode cX0_joltOnce 68 = .ok (.iload_n 1, 1) := by decide +kernel
theorem dX0_joltOnce_69 : decode cX0_joltOnce 69 = .ok (.iconst 1, 1) := by decide +kernel
theorem dX0_joltOnce_70 : decode cX0_joltOnce 70 = .ok (.iadd, 1) := by decide +kernel
theorem dX0_joltOnce_71 : decode cX0_joltOnce 71 = .ok (.iaload, 1) := by decide +kernel
theorem dX0_joltOnce_72 : decode cX0_joltOnce 72 = .ok (.dup2, 1) := by decide +kernel
theorem dX0_joltOnce_73 : decode cX0_joltOnce 73 = .ok (.iaload, 1) := by decide +kernel
theorem dX0_joltOnce_74 : decode cX0_joltOnce 74 = .ok (.iconst 1, 1) := by decide +kernel
theorem dX0_joltOnce_75 : decode cX0_joltOnce 75 = .ok (.iadd, 1) := by decide +kernel
theorem dX0_joltOnce_76 : decode cX0_joltOnce 76 = .ok (.iastore, 1) := by decide +kernel
theorem dX0_joltOnce_77 : decode cX0_joltOnce 77 = .ok (.aload_n 0, 1) := by decide +kernel
theorem dX0_joltOnce_78 : decode cX0_joltOnce 78 = .ok (.aload_n 0, 1) := by decide +kernel
theorem dX0_joltOnce_79 : decode cX0_joltOnce 79 = .ok (.getfield 31, 3) := by decide +kernel
theorem dX0_joltOnce_82 : decode cX0_joltOnce 82 = .ok (.iload_n 1, 1) := by decide +kernel
theorem dX0_joltOnce_83 : decode cX0_joltOnce 83 = .ok (.iaload, 1) := by decide +kernel
theorem dX0_joltOnce_84 : decode cX0_joltOnce 84 = .ok (.invokevirtual 61, 3) := by decide +kernel
theorem dX0_joltOnce_87 : decode cX0_joltOnce 87 = .ok (.aload_n 0, 1) := by decide +kernel
theorem dX0_joltOnce_88 : decode cX0_joltOnce 88 = .ok (.aload_n 0, 1) := by decide +kernel
theorem dX0_joltOnce_89 : decode cX0_joltOnce 89 = .ok (.getfield 31, 3) := by decide +kernel
theorem dX0_joltOnce_92 : decode cX0_joltOnce 92 = .ok (.iload_n 1, 1) := by decide +kernel
theorem dX0_joltOnce_93 : decode cX0_joltOnce 93 = .ok (.iconst 1, 1) := by decide +kernel
theorem dX0_joltOnce_94 : decode cX0_joltOnce 94 = .ok (.iadd, 1) := by decide +kernel
theorem dX0_joltOnce_95 : decode cX0_joltOnce 95 = .ok (.iaload, 1) := by decide +kernel
theorem dX0_joltOnce_96 : decode cX0_joltOnce 96 = .ok (.invokevirtual 61, 3) := by decide +kernel
theorem dX0_joltOnce_99 : decode cX0_joltOnce 99 = .ok (.iinc 1 2, 3) := by decide +kernel
theorem dX0_joltOnce_102 : decode cX0_joltOnce 102 = .ok (.goto (-95), 3) := by decide +kernel
theorem dX0_joltOnce_105 : decode cX0_joltOnce 105 = .ok (.aload_n 0, 1) := by decide +kernel
theorem dX0_joltOnce_106 : decode cX0_joltOnce 106 = .ok (.getfield 9, 3) := by decide +kernel
theorem dX0_joltOnce_109 : decode cX0_joltOnce 109 = .ok (.ifCond .le 31, 3) := by decide +kernel
theorem dX0_joltOnce_112 : decode cX0_joltOnce 112 = .ok (.aload_n 0, 1) := by decide +kernel
theorem dX0_joltOnce_113 : decode cX0_joltOnce 113 = .ok (.invokevirtual 95, 3) := by decide +kernel
theorem dX0_joltOnce_116 : decode cX0_joltOnce 116 = .ok (.bipush 100, 2) := by decide +kernel
theorem dX0_joltOnce_118 : decode cX0_joltOnce 118 = .ok (.irem, 1) := by decide +kernel
theorem dX0_joltOnce_119 : decode cX0_joltOnce 119 = .ok (.aload_n 0, 1) := by decide +kernel
theorem dX0_joltOnce_120 : decode cX0_joltOnce 120 = .ok (.getfield 34, 3) := by decide +kernel
theorem dX0_joltOnce_123 : decode cX0_joltOnce 123 = .ok (.if_icmp .ge 17, 3) := by decide +kernel
theorem dX0_joltOnce_126 : decode cX0_joltOnce 126 = .ok (.aload_n 0, 1) := by decide +kernel
theorem dX0_joltOnce_127 : decode cX0_joltOnce 127 = .ok (.aload_n 0, 1) := by decide +kernel
theorem dX0_joltOnce_128 : decode cX0_joltOnce 128 = .ok (.invokevirtual 95, 3) := by decide +kernel
theorem dX0_joltOnce_131 : decode cX0_joltOnce 131 = .ok (.aload_n 0, 1) := by decide +kernel
theorem dX0_joltOnce_132 : decode cX0_joltOnce 132 = .ok (.getfield 9, 3) := by decide +kernel
theorem dX0_joltOnce_135 : decode cX0_joltOnce 135 = .ok (.irem, 1) := by decide +kernel
theorem dX0_joltOnce_136 : decode cX0_joltOnce 136 = .ok (.iconst 0, 1) := by decide +kernel
theorem dX0_joltOnce_137 : decode cX0_joltOnce 137 = .ok (.invokevirtual 99, 3) := by decide +kernel
theorem dX0_joltOnce_140 : decode cX0_joltOnce 140 = .ok (.aload_n 0, 1) := by decide +kernel
theorem dX0_joltOnce_141 : decode cX0_joltOnce 141 = .ok (.dup, 1) := by decide +kernel
theorem dX0_joltOnce_142 : decode cX0_joltOnce 142 = .ok (.getfield 40, 3) := by decide +kernel
theorem dX0_joltOnce_145 : decode cX0_joltOnce 145 = .ok (.iconst 1, 1) := by decide +kernel
theorem dX0_joltOnce_146 : decode cX0_joltOnce 146 = .ok (.iadd, 1) := by decide +kernel
theorem dX0_joltOnce_147 : decode cX0_joltOnce 147 = .ok (.putfield 40, 3) := by decide +kernel
theorem dX0_joltOnce_150 : decode cX0_joltOnce 150 = .ok (.return_, 1) := by decide +kernel
theorem dX0_climbs_0 : decode cX0_climbs 0 = .ok (.aload_n 0, 1) := by decide +kernel
theorem dX0_climbs_1 : decode cX0_climbs 1 = .ok (.getfield 31, 3) := by decide +kernel
theorem dX0_climbs_4 : decode cX0_climbs 4 = .ok (.iload_n 1, 1) := by decide +kernel
theorem dX0_climbs_5 : decode cX0_climbs 5 = .ok (.iaload, 1) := by decide +kernel
theorem dX0_climbs_6 : decode cX0_climbs 6 = .ok (.istore_n 2, 1) := by decide +kernel
theorem dX0_climbs_7 : decode cX0_climbs 7 = .ok (.aload_n 0, 1) := by decide +kernel
theorem dX0_climbs_8 : decode cX0_climbs 8 = .ok (.getfield 31, 3) := by decide +kernel
theorem dX0_climbs_11 : decode cX0_climbs 11 = .ok (.iload_n 1, 1) := by decide +kernel
theorem dX0_climbs_12 : decode cX0_climbs 12 = .ok (.iconst 1, 1) := by decide +kernel
theorem dX0_climbs_13 : decode cX0_climbs 13 = .ok (.isub, 1) := by decide +kernel
theorem dX0_climbs_14 : decode cX0_climbs 14 = .ok (.iaload, 1) := by decide +kernel
theorem dX0_climbs_15 : decode cX0_climbs 15 = .ok (.istore_n 3, 1) := by decide +kernel
theorem dX0_climbs_16 : decode cX0_climbs 16 = .ok (.aload_n 0, 1) := by decide +kernel
theorem dX0_climbs_17 : decode cX0_climbs 17 = .ok (.getfield 28, 3) := by decide +kernel
theorem dX0_climbs_20 : decode cX0_climbs 20 = .ok (.iload_n 2, 1) := by decide +kernel
theorem dX0_climbs_21 : decode cX0_climbs 21 = .ok (.iaload, 1) := by decide +kernel
theorem dX0_climbs_22 : decode cX0_climbs 22 = .ok (.aload_n 0, 1) := by decide +kernel
theorem dX0_climbs_23 : decode cX0_climbs 23 = .ok (.getfield 28, 3) := by decide +kernel
theorem dX0_climbs_26 : decode cX0_climbs 26 = .ok (.iload_n 3, 1) := by decide +kernel
theorem dX0_climbs_27 : decode cX0_climbs 27 = .ok (.iaload, 1) := by decide +kernel
theorem dX0_climbs_28 : decode cX0_climbs 28 = .ok (.isub, 1) := by decide +kernel
theorem dX0_climbs_29 : decode cX0_climbs 29 = .ok (.aload_n 0, 1) := by decide +kernel
theorem dX0_climbs_30 : decode cX0_climbs 30 = .ok (.getfield 15, 3) := by decide +kernel
theorem dX0_climbs_33 : decode cX0_climbs 33 = .ok (.iload_n 2, 1) := by decide +kernel
theorem dX0_climbs_34 : decode cX0_climbs 34 = .ok (.iaload, 1) := by decide +kernel
theorem dX0_climbs_35 : decode cX0_climbs 35 = .ok (.invokestatic 102, 3) := by decide +kernel
theorem dX0_climbs_38 : decode cX0_climbs 38 = .ok (.aload_n 0, 1) := by decide +kernel
theorem dX0_climbs_39 : decode cX0_climbs 39 = .ok (.getfield 15, 3) := by decide +kernel
theorem dX0_climbs_42 : decode cX0_climbs 42 = .ok (.iload_n 3, 1) := by decide +kernel
theorem dX0_climbs_43 : decode cX0_climbs 43 = .ok (.iaload, 1) := by decide +kernel
theorem dX0_climbs_44 : decode cX0_climbs 44 = .ok (.invokestatic 102, 3) := by decide +kernel
theorem dX0_climbs_47 : decode cX0_climbs 47 = .ok (.iadd, 1) := by decide +kernel
theorem dX0_climbs_48 : decode cX0_climbs 48 = .ok (.if_icmp .le 7, 3) := by decide +kernel
theorem dX0_climbs_51 : decode cX0_climbs 51 = .ok (.iconst 1, 1) := by decide +kernel
theorem dX0_climbs_52 : decode cX0_climbs 52 = .ok (.goto 4, 3) := by decide +kernel
theorem dX0_climbs_55 : decode cX0_climbs 55 = .ok (.iconst 0, 1) := by decide +kernel
theorem dX0_climbs_56 : decode cX0_climbs 56 = .ok (.ireturn, 1) := by decide +kernel
theorem dX0_climbers_0 : decode cX0_climbers 0 = .ok (.iconst 0, 1) := by decide +kernel
theorem dX0_climbers_1 : decode cX0_climbers 1 = .ok (.istore_n 1, 1) := by decide +kernel
theorem dX0_climbers_2 : decode cX0_climbers 2 = .ok (.iconst 1, 1) := by decide +kernel
theorem dX0_climbers_3 : decode cX0_climbers 3 = .ok (.istore_n 2, 1) := by decide +kernel
theorem dX0_climbers_4 : decode cX0_climbers 4 = .ok (.iload_n 2, 1) := by decide +kernel
theorem dX0_climbers_5 : decode cX0_climbers 5 = .ok (.aload_n 0, 1) := by decide +kernel
theorem dX0_climbers_6 : decode cX0_climbers 6 = .ok (.getfield 9, 3) := by decide +kernel
theorem dX0_climbers_9 : decode cX0_climbers 9 = .ok (.if_icmp .ge 20, 3) := by decide +kernel
theorem dX0_climbers_12 : decode cX0_climbers 12 = .ok (.aload_n 0, 1) := by decide +kernel
theorem dX0_climbers_13 : decode cX0_climbers 13 = .ok (.iload_n 2, 1) := by decide +kernel
theorem dX0_climbers_14 : decode cX0_climbers 14 = .ok (.invokevirtual 92, 3) := by decide +kernel
theorem dX0_climbers_17 : decode cX0_climbers 17 = .ok (.ifCond .eq 6, 3) := by decide +kernel
theorem dX0_climbers_20 : decode cX0_climbers 20 = .ok (.iinc 1 1, 3) := by decide +kernel
theorem dX0_climbers_23 : decode cX0_climbers 23 = .ok (.iinc 2 1, 3) := by decide +kernel
theorem dX0_climbers_26 : decode cX0_climbers 26 = .ok (.goto (-22), 3) := by decide +kernel
theorem dX0_climbers_29 : decode cX0_climbers 29 = .ok (.iload_n 1, 1) := by decide +kernel
theorem dX0_climbers_30 : decode cX0_climbers 30 = .ok (.ireturn, 1) := by decide +kernel
theorem dX0_mess_0 : decode cX0_mess 0 = .ok (.iconst 0, 1) := by decide +kernel
theorem dX0_mess_1 : decode cX0_mess 1 = .ok (.istore_n 1, 1) := by decide +kernel
theorem dX0_mess_2 : decode cX0_mess 2 = .ok (.iconst 0, 1) := by decide +kernel
theorem dX0_mess_3 : decode cX0_mess 3 = .ok (.istore_n 2, 1) := by decide +kernel
theorem dX0_mess_4 : decode cX0_mess 4 = .ok (.iload_n 2, 1) := by decide +kernel
theorem dX0_mess_5 : decode cX0_mess 5 = .ok (.aload_n 0, 1) := by decide +kernel
theorem dX0_mess_6 : decode cX0_mess 6 = .ok (.getfield 9, 3) := by decide +kernel
theorem dX0_mess_9 : decode cX0_mess 9 = .ok (.if_icmp .ge 55, 3) := by decide +kernel
theorem dX0_mess_12 : decode cX0_mess 12 = .ok (.iload_n 2, 1) := by decide +kernel
theorem dX0_mess_13 : decode cX0_mess 13 = .ok (.iconst 1, 1) := by decide +kernel
theorem dX0_mess_14 : decode cX0_mess 14 = .ok (.iadd, 1) := by decide +kernel
theorem dX0_mess_15 : decode cX0_mess 15 = .ok (.istore_n 3, 1) := by decide +kernel
theorem dX0_mess_16 : decode cX0_mess 16 = .ok (.iload_n 3, 1) := by decide +kernel
theorem dX0_mess_17 : decode cX0_mess 17 = .ok (.aload_n 0, 1) := by decide +kernel
theorem dX0_mess_18 : decode cX0_mess 18 = .ok (.getfield 9, 3) := by decide +kernel
theorem dX0_mess_21 : decode cX0_mess 21 = .ok (.if_icmp .ge 37, 3) := by decide +kernel
theorem dX0_mess_24 : decode cX0_mess 24 = .ok (.aload_n 0, 1) := by decide +kernel
theorem dX0_mess_25 : decode cX0_mess 25 = .ok (.getfield 28, 3) := by decide +kernel
theorem dX0_mess_28 : decode cX0_mess 28 = .ok (.aload_n 0, 1) := by decide +kernel
theorem dX0_mess_29 : decode cX0_mess 29 = .ok (.getfield 31, 3) := by decide +kernel
theorem dX0_mess_32 : decode cX0_mess 32 = .ok (.iload_n 3, 1) := by decide +kernel
theorem dX0_mess_33 : decode cX0_mess 33 = .ok (.iaload, 1) := by decide +kernel
theorem dX0_mess_34 : decode cX0_mess 34 = .ok (.iaload, 1) := by decide +kernel
theorem dX0_mess_35 : decode cX0_mess 35 = .ok (.aload_n 0, 1) := by decide +kernel
theorem dX0_mess_36 : decode cX0_mess 36 = .ok (.getfield 28, 3) := by decide +kernel
theorem dX0_mess_39 : decode cX0_mess 39 = .ok (.aload_n 0, 1) := by decide +kernel
theorem dX0_mess_40 : decode cX0_mess 40 = .ok (.getfield 31, 3) := by decide +kernel
theorem dX0_mess_43 : decode cX0_mess 43 = .ok (.iload_n 2, 1) := by decide +kernel
theorem dX0_mess_44 : decode cX0_mess 44 = .ok (.iaload, 1) := by decide +kernel
theorem dX0_mess_45 : decode cX0_mess 45 = .ok (.iaload, 1) := by decide +kernel
theorem dX0_mess_46 : decode cX0_mess 46 = .ok (.if_icmp .le 6, 3) := by decide +kernel
theorem dX0_mess_49 : decode cX0_mess 49 = .ok (.iinc 1 1, 3) := by decide +kernel
theorem dX0_mess_52 : decode cX0_mess 52 = .ok (.iinc 3 1, 3) := by decide +kernel
theorem dX0_mess_55 : decode cX0_mess 55 = .ok (.goto (-39), 3) := by decide +kernel
theorem dX0_mess_58 : decode cX0_mess 58 = .ok (.iinc 2 1, 3) := by decide +kernel
theorem dX0_mess_61 : decode cX0_mess 61 = .ok (.goto (-57), 3) := by decide +kernel
theorem dX0_mess_64 : decode cX0_mess 64 = .ok (.iload_n 1, 1) := by decide +kernel
theorem dX0_mess_65 : decode cX0_mess 65 = .ok (.ireturn, 1) := by decide +kernel
theorem dX0_layers_0 : decode cX0_layers 0 = .ok (.iconst 0, 1) := by decide +kernel
theorem dX0_layers_1 : decode cX0_layers 1 = .ok (.istore_n 1, 1) := by decide +kernel
theorem dX0_layers_2 : decode cX0_layers 2 = .ok (.iconst 0, 1) := by decide +kernel
theorem dX0_layers_3 : decode cX0_layers 3 = .ok (.istore_n 2, 1) := by decide +kernel
theorem dX0_layers_4 : decode cX0_layers 4 = .ok (.iload_n 2, 1) := by decide +kernel
theorem dX0_layers_5 : decode cX0_layers 5 = .ok (.aload_n 0, 1) := by decide +kernel
theorem dX0_layers_6 : decode cX0_layers 6 = .ok (.getfield 9, 3) := by decide +kernel
theorem dX0_layers_9 : decode cX0_layers 9 = .ok (.if_icmp .ge 20, 3) := by decide +kernel
theorem dX0_layers_12 : decode cX0_layers 12 = .ok (.aload_n 0, 1) := by decide +kernel
theorem dX0_layers_13 : decode cX0_layers 13 = .ok (.iload_n 2, 1) := by decide +kernel
theorem dX0_layers_14 : decode cX0_layers 14 = .ok (.invokevirtual 106, 3) := by decide +kernel
theorem dX0_layers_17 : decode cX0_layers 17 = .ok (.ifCond .eq 6, 3) := by decide +kernel
theorem dX0_layers_20 : decode cX0_layers 20 = .ok (.iinc 1 1, 3) := by decide +kernel
theorem dX0_layers_23 : decode cX0_layers 23 = .ok (.iinc 2 1, 3) := by decide +kernel
theorem dX0_layers_26 : decode cX0_layers 26 = .ok (.goto (-22), 3) := by decide +kernel
theorem dX0_layers_29 : decode cX0_layers 29 = .ok (.iload_n 1, 1) := by decide +kernel
theorem dX0_layers_30 : decode cX0_layers 30 = .ok (.ireturn, 1) := by decide +kernel
theorem dX0_rowsOf_0 : decode cX0_rowsOf 0 = .ok (.iconst 0, 1) := by decide +kernel
theorem dX0_rowsOf_1 : decode cX0_rowsOf 1 = .ok (.istore_n 2, 1) := by decide +kernel
theorem dX0_rowsOf_2 : decode cX0_rowsOf 2 = .ok (.iconst 0, 1) := by decide +kernel
theorem dX0_rowsOf_3 : decode cX0_rowsOf 3 = .ok (.istore_n 3, 1) := by decide +kernel
theorem dX0_rowsOf_4 : decode cX0_rowsOf 4 = .ok (.iload_n 3, 1) := by decide +kernel
theorem dX0_rowsOf_5 : decode cX0_rowsOf 5 = .ok (.aload_n 0, 1) := by decide +kernel
theorem dX0_rowsOf_6 : decode cX0_rowsOf 6 = .ok (.getfield 9, 3) := by decide +kernel
theorem dX0_rowsOf_9 : decode cX0_rowsOf 9 = .ok (.if_icmp .ge 35, 3) := by decide +kernel
theorem dX0_rowsOf_12 : decode cX0_rowsOf 12 = .ok (.aload_n 0, 1) := by decide +kernel
theorem dX0_rowsOf_13 : decode cX0_rowsOf 13 = .ok (.getfield 22, 3) := by decide +kernel
theorem dX0_rowsOf_16 : decode cX0_rowsOf 16 = .ok (.aload_n 0, 1) := by decide +kernel
theorem dX0_rowsOf_17 : decode cX0_rowsOf 17 = .ok (.getfield 31, 3) := by decide +kernel
theorem dX0_rowsOf_20 : decode cX0_rowsOf 20 = .ok (.iload_n 3, 1) := by decide +kernel
theorem dX0_rowsOf_21 : decode cX0_rowsOf 21 = .ok (.iaload, 1) := by decide +kernel
theorem dX0_rowsOf_22 : decode cX0_rowsOf 22 = .ok (.iaload, 1) := by decide +kernel
theorem dX0_rowsOf_23 : decode cX0_rowsOf 23 = .ok (.iload_n 1, 1) := by decide +kernel
theorem dX0_rowsOf_24 : decode cX0_rowsOf 24 = .ok (.if_icmp .ne 14, 3) := by decide +kernel
theorem dX0_rowsOf_27 : decode cX0_rowsOf 27 = .ok (.aload_n 0, 1) := by decide +kernel
theorem dX0_rowsOf_28 : decode cX0_rowsOf 28 = .ok (.iload_n 3, 1) := by decide +kernel
theorem dX0_rowsOf_29 : decode cX0_rowsOf 29 = .ok (.invokevirtual 106, 3) := by decide +kernel
theorem dX0_rowsOf_32 : decode cX0_rowsOf 32 = .ok (.ifCond .eq 6, 3) := by decide +kernel
theorem dX0_rowsOf_35 : decode cX0_rowsOf 35 = .ok (.iinc 2 1, 3) := by decide +kernel
theorem dX0_rowsOf_38 : decode cX0_rowsOf 38 = .ok (.iinc 3 1, 3) := by decide +kernel
theorem dX0_rowsOf_41 : decode cX0_rowsOf 41 = .ok (.goto (-37), 3) := by decide +kernel
theorem dX0_rowsOf_44 : decode cX0_rowsOf 44 = .ok (.iload_n 2, 1) := by decide +kernel
theorem dX0_rowsOf_45 : decode cX0_rowsOf 45 = .ok (.ireturn, 1) := by decide +kernel
theorem dX0_startsRow_0 : decode cX0_startsRow 0 = .ok (.iload_n 1, 1) := by decide +kernel
theorem dX0_startsRow_1 : decode cX0_startsRow 1 = .ok (.ifCond .eq 30, 3) := by decide +kernel
theorem dX0_startsRow_4 : decode cX0_startsRow 4 = .ok (.aload_n 0, 1) := by decide +kernel
theorem dX0_startsRow_5 : decode cX0_startsRow 5 = .ok (.getfield 22, 3) := by decide +kernel
theorem dX0_startsRow_8 : decode cX0_startsRow 8 = .ok (.aload_n 0, 1) := by decide +kernel
theorem dX0_startsRow_9 : decode cX0_startsRow 9 = .ok (.getfield 31, 3) := by decide +kernel
theorem dX0_startsRow_12 : decode cX0_startsRow 12 = .ok (.iload_n 1, 1) := by decide +kernel
theorem dX0_startsRow_13 : decode cX0_startsRow 13 = .ok (.iaload, 1) := by decide +kernel
theorem dX0_startsRow_14 : decode cX0_startsRow 14 = .ok (.iaload, 1) := by decide +kernel
theorem dX0_startsRow_15 : decode cX0_startsRow 15 = .ok (.aload_n 0, 1) := by decide +kernel
theorem dX0_startsRow_16 : decode cX0_startsRow 16 = .ok (.getfield 22, 3) := by decide +kernel
theorem dX0_startsRow_19 : decode cX0_startsRow 19 = .ok (.aload_n 0, 1) := by decide +kernel
theorem dX0_startsRow_20 : decode cX0_startsRow 20 = .ok (.getfield 31, 3) := by decide +kernel
theorem dX0_startsRow_23 : decode cX0_startsRow 23 = .ok (.iload_n 1, 1) := by decide +kernel
theorem dX0_startsRow_24 : decode cX0_startsRow 24 = .ok (.iconst 1, 1) := by decide +kernel
theorem dX0_startsRow_25 : decode cX0_startsRow 25 = .ok (.isub, 1) := by decide +kernel
theorem dX0_startsRow_26 : decode cX0_startsRow 26 = .ok (.iaload, 1) := by decide +kernel
theorem dX0_startsRow_27 : decode cX0_startsRow 27 = .ok (.iaload, 1) := by decide +kernel
theorem dX0_startsRow_28 : decode cX0_startsRow 28 = .ok (.if_icmp .eq 7, 3) := by decide +kernel
theorem dX0_startsRow_31 : decode cX0_startsRow 31 = .ok (.iconst 1, 1) := by decide +kernel
theorem dX0_startsRow_32 : decode cX0_startsRow 32 = .ok (.goto 4, 3) := by decide +kernel
theorem dX0_startsRow_35 : decode cX0_startsRow 35 = .ok (.iconst 0, 1) := by decide +kernel
theorem dX0_startsRow_36 : decode cX0_startsRow 36 = .ok (.ireturn, 1) := by decide +kernel
theorem dX0_thickOfAll_0 : decode cX0_thickOfAll 0 = .ok (.iconst 0, 1) := by decide +kernel
theorem dX0_thickOfAll_1 : decode cX0_thickOfAll 1 = .ok (.istore_n 1, 1) := by decide +kernel
theorem dX0_thickOfAll_2 : decode cX0_thickOfAll 2 = .ok (.iconst 0, 1) := by decide +kernel
theorem dX0_thickOfAll_3 : decode cX0_thickOfAll 3 = .ok (.istore_n 2, 1) := by decide +kernel
theorem dX0_thickOfAll_4 : decode cX0_thickOfAll 4 = .ok (.iload_n 2, 1) := by decide +kernel
theorem dX0_thickOfAll_5 : decode cX0_thickOfAll 5 = .ok (.aload_n 0, 1) := by decide +kernel
theorem dX0_thickOfAll_6 : decode cX0_thickOfAll 6 = .ok (.getfield 9, 3) := by decide +kernel
theorem dX0_thickOfAll_9 : decode cX0_thickOfAll 9 = .ok (.if_icmp .ge 18, 3) := by decide +kernel
theorem dX0_thickOfAll_12 : decode cX0_thickOfAll 12 = .ok (.iload_n 1, 1) := by decide +kernel
theorem dX0_thickOfAll_13 : decode cX0_thickOfAll 13 = .ok (.aload_n 0, 1) := by decide +kernel
theorem dX0_thickOfAll_14 : decode cX0_thickOfAll 14 = .ok (.getfield 19, 3) := by decide +kernel
theorem dX0_thickOfAll_17 : decode cX0_thickOfAll 17 = .ok (.iload_n 2, 1) := by decide +kernel
theorem dX0_thickOfAll_18 : decode cX0_thickOfAll 18 = .ok (.iaload, 1) := by decide +kernel
theorem dX0_thickOfAll_19 : decode cX0_thickOfAll 19 = .ok (.iadd, 1) := by decide +kernel
theorem dX0_thickOfAll_20 : decode cX0_thickOfAll 20 = .ok (.istore_n 1, 1) := by decide +kernel
theorem dX0_thickOfAll_21 : decode cX0_thickOfAll 21 = .ok (.iinc 2 1, 3) := by decide +kernel
theorem dX0_thickOfAll_24 : decode cX0_thickOfAll 24 = .ok (.goto (-20), 3) := by decide +kernel
theorem dX0_thickOfAll_27 : decode cX0_thickOfAll 27 = .ok (.iload_n 1, 1) := by decide +kernel
theorem dX0_thickOfAll_28 : decode cX0_thickOfAll 28 = .ok (.ireturn, 1) := by decide +kernel
theorem dX0_thickOnTop_0 : decode cX0_thickOnTop 0 = .ok (.aload_n 0, 1) := by decide +kernel
theorem dX0_thickOnTop_1 : decode cX0_thickOnTop 1 = .ok (.getfield 9, 3) := by decide +kernel
theorem dX0_thickOnTop_4 : decode cX0_thickOnTop 4 = .ok (.ifCond .ne 7, 3) := by decide +kernel
theorem dX0_thickOnTop_7 : decode cX0_thickOnTop 7 = .ok (.iconst 0, 1) := by decide +kernel
theorem dX0_thickOnTop_8 : decode cX0_thickOnTop 8 = .ok (.goto 14, 3) := by decide +kernel
theorem dX0_thickOnTop_11 : decode cX0_thickOnTop 11 = .ok (.aload_n 0, 1) := by decide +kernel
theorem dX0_thickOnTop_12 : decode cX0_thickOnTop 12 = .ok (.getfield 19, 3) := by decide +kernel
theorem dX0_thickOnTop_15 : decode cX0_thickOnTop 15 = .ok (.aload_n 0, 1) := by decide +kernel
theorem dX0_thickOnTop_16 : decode cX0_thickOnTop 16 = .ok (.getfield 31, 3) := by decide +kernel
theorem dX0_thickOnTop_19 : decode cX0_thickOnTop 19 = .ok (.iconst 0, 1) := by decide +kernel
theorem dX0_thickOnTop_20 : decode cX0_thickOnTop 20 = .ok (.iaload, 1) := by decide +kernel
theorem dX0_thickOnTop_21 : decode cX0_thickOnTop 21 = .ok (.iaload, 1) := by decide +kernel
theorem dX0_thickOnTop_22 : decode cX0_thickOnTop 22 = .ok (.ireturn, 1) := by decide +kernel
theorem dX0_townCount_0 : decode cX0_townCount 0 = .ok (.iconst 0, 1) := by decide +kernel
theorem dX0_townCount_1 : decode cX0_townCount 1 = .ok (.istore_n 1, 1) := by decide +kernel
theorem dX0_townCount_2 : decode cX0_townCount 2 = .ok (.iconst 0, 1) := by decide +kernel
theorem dX0_townCount_3 : decode cX0_townCount 3 = .ok (.istore_n 2, 1) := by decide +kernel
theorem dX0_townCount_4 : decode cX0_townCount 4 = .ok (.iload_n 2, 1) := by decide +kernel
theorem dX0_townCount_5 : decode cX0_townCount 5 = .ok (.aload_n 0, 1) := by decide +kernel
theorem dX0_townCount_6 : decode cX0_townCount 6 = .ok (.getfield 9, 3) := by decide +kernel
theorem dX0_townCount_9 : decode cX0_townCount 9 = .ok (.if_icmp .ge 20, 3) := by decide +kernel
theorem dX0_townCount_12 : decode cX0_townCount 12 = .ok (.iload_n 1, 1) := by decide +kernel
theorem dX0_townCount_13 : decode cX0_townCount 13 = .ok (.iconst 1, 1) := by decide +kernel
theorem dX0_townCount_14 : decode cX0_townCount 14 = .ok (.aload_n 0, 1) := by decide +kernel
theorem dX0_townCount_15 : decode cX0_townCount 15 = .ok (.getfield 22, 3) := by decide +kernel
theorem dX0_townCount_18 : decode cX0_townCount 18 = .ok (.iload_n 2, 1) := by decide +kernel
theorem dX0_townCount_19 : decode cX0_townCount 19 = .ok (.iaload, 1) := by decide +kernel
theorem dX0_townCount_20 : decode cX0_townCount 20 = .ok (.ishl, 1) := by decide +kernel
theorem dX0_townCount_21 : decode cX0_townCount 21 = .ok (.ior, 1) := by decide +kernel
theorem dX0_townCount_22 : decode cX0_townCount 22 = .ok (.istore_n 1, 1) := by decide +kernel
theorem dX0_townCount_23 : decode cX0_townCount 23 = .ok (.iinc 2 1, 3) := by decide +kernel
theorem dX0_townCount_26 : decode cX0_townCount 26 = .ok (.goto (-22), 3) := by decide +kernel
theorem dX0_townCount_29 : decode cX0_townCount 29 = .ok (.iload_n 1, 1) := by decide +kernel
theorem dX0_townCount_30 : decode cX0_townCount 30 = .ok (.invokestatic 109, 3) := by decide +kernel
theorem dX0_townCount_33 : decode cX0_townCount 33 = .ok (.ireturn, 1) := by decide +kernel
theorem dX1_isOf_0 : decode cX1_isOf 0 = .ok (.iload_n 1, 1) := by decide +kernel
theorem dX1_isOf_1 : decode cX1_isOf 1 = .ok (.iload_n 0, 1) := by decide +kernel
theorem dX1_isOf_2 : decode cX1_isOf 2 = .ok (.if_icmp .eq 27, 3) := by decide +kernel
theorem dX1_isOf_5 : decode cX1_isOf 5 = .ok (.iload_n 1, 1) := by decide +kernel
theorem dX1_isOf_6 : decode cX1_isOf 6 = .ok (.ifCond .eq 23, 3) := by decide +kernel
theorem dX1_isOf_9 : decode cX1_isOf 9 = .ok (.iload_n 1, 1) := by decide +kernel
theorem dX1_isOf_10 : decode cX1_isOf 10 = .ok (.iconst 1, 1) := by decide +kernel
theorem dX1_isOf_11 : decode cX1_isOf 11 = .ok (.if_icmp .ne 8, 3) := by decide +kernel
theorem dX1_isOf_14 : decode cX1_isOf 14 = .ok (.iload_n 0, 1) := by decide +kernel
theorem dX1_isOf_15 : decode cX1_isOf 15 = .ok (.iconst 3, 1) := by decide +kernel
theorem dX1_isOf_16 : decode cX1_isOf 16 = .ok (.if_icmp .eq 13, 3) := by decide +kernel
theorem dX1_isOf_19 : decode cX1_isOf 19 = .ok (.iload_n 1, 1) := by decide +kernel
theorem dX1_isOf_20 : decode cX1_isOf 20 = .ok (.iconst 2, 1) := by decide +kernel
theorem dX1_isOf_21 : decode cX1_isOf 21 = .ok (.if_icmp .ne 12, 3) := by decide +kernel
theorem dX1_isOf_24 : decode cX1_isOf 24 = .ok (.iload_n 0, 1) := by decide +kernel
theorem dX1_isOf_25 : decode cX1_isOf 25 = .ok (.iconst 4, 1) := by decide +kernel
theorem dX1_isOf_26 : decode cX1_isOf 26 = .ok (.if_icmp .ne 7, 3) := by decide +kernel
theorem dX1_isOf_29 : decode cX1_isOf 29 = .ok (.iconst 1, 1) := by decide +kernel
theorem dX1_isOf_30 : decode cX1_isOf 30 = .ok (.goto 4, 3) := by decide +kernel
theorem dX1_isOf_33 : decode cX1_isOf 33 = .ok (.iconst 0, 1) := by decide +kernel
theorem dX1_isOf_34 : decode cX1_isOf 34 = .ok (.ireturn, 1) := by decide +kernel
theorem dX1_rises_0 : decode cX1_rises 0 = .ok (.iconst 0, 1) := by decide +kernel
theorem dX1_rises_1 : decode cX1_rises 1 = .ok (.iload_n 1, 1) := by decide +kernel
theorem dX1_rises_2 : decode cX1_rises 2 = .ok (.bipush 20, 2) := by decide +kernel
theorem dX1_rises_4 : decode cX1_rises 4 = .ok (.isub, 1) := by decide +kernel
theorem dX1_rises_5 : decode cX1_rises 5 = .ok (.invokestatic 9, 3) := by decide +kernel
theorem dX1_rises_8 : decode cX1_rises 8 = .ok (.istore_n 2, 1) := by decide +kernel
theorem dX1_rises_9 : decode cX1_rises 9 = .ok (.iload_n 0, 1) := by decide +kernel
theorem dX1_rises_10 : decode cX1_rises 10 = .ok (.tableswitch 54 1 5 #[34, 40, 36, 48, 50], 34) := by decide +kernel
theorem dX1_rises_44 : decode cX1_rises 44 = .ok (.iload_n 2, 1) := by decide +kernel
theorem dX1_rises_45 : decode cX1_rises 45 = .ok (.ireturn, 1) := by decide +kernel
theorem dX1_rises_46 : decode cX1_rises 46 = .ok (.iload_n 2, 1) := by decide +kernel
theorem dX1_rises_47 : decode cX1_rises 47 = .ok (.iconst 2, 1) := by decide +kernel
theorem dX1_rises_48 : decode cX1_rises 48 = .ok (.idiv, 1) := by decide +kernel
theorem dX1_rises_49 : decode cX1_rises 49 = .ok (.ireturn, 1) := by decide +kernel
theorem dX1_rises_50 : decode cX1_rises 50 = .ok (.iconst 0, 1) := by decide +kernel
theorem dX1_rises_51 : decode cX1_rises 51 = .ok (.iload_n 1, 1) := by decide +kernel
theorem dX1_rises_52 : decode cX1_rises 52 = .ok (.iconst 5, 1) := by decide +kernel
theorem dX1_rises_53 : decode cX1_rises 53 = .ok (.isub, 1) := by decide +kernel
theorem dX1_rises_54 : decode cX1_rises 54 = .ok (.invokestatic 9, 3) := by decide +kernel
theorem dX1_rises_57 : decode cX1_rises 57 = .ok (.ireturn, 1) := by decide +kernel
theorem dX1_rises_58 : decode cX1_rises 58 = .ok (.iconst 0, 1) := by decide +kernel
theorem dX1_rises_59 : decode cX1_rises 59 = .ok (.ireturn, 1) := by decide +kernel
theorem dX1_rises_60 : decode cX1_rises 60 = .ok (.iconst 2, 1) := by decide +kernel
theorem dX1_rises_61 : decode cX1_rises 61 = .ok (.iload_n 1, 1) := by decide +kernel
theorem dX1_rises_62 : decode cX1_rises 62 = .ok (.imul, 1) := by decide +kernel
theorem dX1_rises_63 : decode cX1_rises 63 = .ok (.ireturn, 1) := by decide +kernel
theorem dX1_rises_64 : decode cX1_rises 64 = .ok (.iload_n 1, 1) := by decide +kernel
theorem dX1_rises_65 : decode cX1_rises 65 = .ok (.ireturn, 1) := by decide +kernel
theorem dX1_grips_0 : decode cX1_grips 0 = .ok (.iconst 2, 1) := by decide +kernel
theorem dX1_grips_1 : decode cX1_grips 1 = .ok (.istore_n 1, 1) := by decide +kernel
theorem dX1_grips_2 : decode cX1_grips 2 = .ok (.iconst 0, 1) := by decide +kernel
theorem dX1_grips_3 : decode cX1_grips 3 = .ok (.istore_n 2, 1) := by decide +kernel
theorem dX1_grips_4 : decode cX1_grips 4 = .ok (.iload_n 1, 1) := by decide +kernel
theorem dX1_grips_5 : decode cX1_grips 5 = .ok (.bipush 8, 2) := by decide +kernel
theorem dX1_grips_7 : decode cX1_grips 7 = .ok (.iadd, 1) := by decide +kernel
theorem dX1_grips_8 : decode cX1_grips 8 = .ok (.istore_n 3, 1) := by decide +kernel
theorem dX1_grips_9 : decode cX1_grips 9 = .ok (.iload_n 0, 1) := by decide +kernel
theorem dX1_grips_10 : decode cX1_grips 10 = .ok (.tableswitch 50 1 5 #[34, 40, 36, 42, 46], 34) := by decide +kernel
theorem dX1_grips_44 : decode cX1_grips 44 = .ok (.iload_n 2, 1) := by decide +kernel
theorem dX1_grips_45 : decode cX1_grips 45 = .ok (.ireturn, 1) := by decide +kernel
theorem dX1_grips_46 : decode cX1_grips 46 = .ok (.iload_n 2, 1) := by decide +kernel
theorem dX1_grips_47 : decode cX1_grips 47 = .ok (.iconst 4, 1) := by decide +kernel
theorem dX1_grips_48 : decode cX1_grips 48 = .ok (.iadd, 1) := by decide +kernel
theorem dX1_grips_49 : decode cX1_grips 49 = .ok (.ireturn, 1) := by decide +kernel
theorem dX1_grips_50 : decode cX1_grips 50 = .ok (.iload_n 3, 1) := by decide +kernel
theorem dX1_grips_51 : decode cX1_grips 51 = .ok (.ireturn, 1) := by decide +kernel
theorem dX1_grips_52 : decode cX1_grips 52 = .ok (.iconst 2, 1) := by decide +kernel
theorem dX1_grips_53 : decode cX1_grips 53 = .ok (.iload_n 3, 1) := by decide +kernel
theorem dX1_grips_54 : decode cX1_grips 54 = .ok (.imul, 1) := by decide +kernel
theorem dX1_grips_55 : decode cX1_grips 55 = .ok (.ireturn, 1) := by decide +kernel
theorem dX1_grips_56 : decode cX1_grips 56 = .ok (.iload_n 1, 1) := by decide +kernel
theorem dX1_grips_57 : decode cX1_grips 57 = .ok (.iconst 1, 1) := by decide +kernel
theorem dX1_grips_58 : decode cX1_grips 58 = .ok (.isub, 1) := by decide +kernel
theorem dX1_grips_59 : decode cX1_grips 59 = .ok (.ireturn, 1) := by decide +kernel
theorem dX1_grips_60 : decode cX1_grips 60 = .ok (.iload_n 1, 1) := by decide +kernel
theorem dX1_grips_61 : decode cX1_grips 61 = .ok (.ireturn, 1) := by decide +kernel
theorem dX1_worth_0 : decode cX1_worth 0 = .ok (.iload_n 1, 1) := by decide +kernel
theorem dX1_worth_1 : decode cX1_worth 1 = .ok (.bipush 7, 2) := by decide +kernel
theorem dX1_worth_3 : decode cX1_worth 3 = .ok (.iadd, 1) := by decide +kernel
theorem dX1_worth_4 : decode cX1_worth 4 = .ok (.istore_n 2, 1) := by decide +kernel
theorem dX1_worth_5 : decode cX1_worth 5 = .ok (.bipush 99, 2) := by decide +kernel
theorem dX1_worth_7 : decode cX1_worth 7 = .ok (.iload_n 1, 1) := by decide +kernel
theorem dX1_worth_8 : decode cX1_worth 8 = .ok (.isub, 1) := by decide +kernel
theorem dX1_worth_9 : decode cX1_worth 9 = .ok (.istore_n 3, 1) := by decide +kernel
theorem dX1_worth_10 : decode cX1_worth 10 = .ok (.iload_n 0, 1) := by decide +kernel
theorem dX1_worth_11 : decode cX1_worth 11 = .ok (.tableswitch 48 1 5 #[33, 39, 35, 41, 46], 33) := by decide +kernel
theorem dX1_worth_44 : decode cX1_worth 44 = .ok (.iload_n 2, 1) := by decide +kernel
theorem dX1_worth_45 : decode cX1_worth 45 = .ok (.ireturn, 1) := by decide +kernel
theorem dX1_worth_46 : decode cX1_worth 46 = .ok (.iconst 2, 1) := by decide +kernel
theorem dX1_worth_47 : decode cX1_worth 47 = .ok (.iload_n 2, 1) := by decide +kernel
theorem dX1_worth_48 : decode cX1_worth 48 = .ok (.imul, 1) := by decide +kernel
theorem dX1_worth_49 : decode cX1_worth 49 = .ok (.ireturn, 1) := by decide +kernel
theorem dX1_worth_50 : decode cX1_worth 50 = .ok (.iload_n 3, 1) := by decide +kernel
theorem dX1_worth_51 : decode cX1_worth 51 = .ok (.ireturn, 1) := by decide +kernel
theorem dX1_worth_52 : decode cX1_worth 52 = .ok (.iload_n 3, 1) := by decide +kernel
theorem dX1_worth_53 : decode cX1_worth 53 = .ok (.bipush 6, 2) := by decide +kernel
theorem dX1_worth_55 : decode cX1_worth 55 = .ok (.isub, 1) := by decide +kernel
theorem dX1_worth_56 : decode cX1_worth 56 = .ok (.ireturn, 1) := by decide +kernel
theorem dX1_worth_57 : decode cX1_worth 57 = .ok (.iconst 2, 1) := by decide +kernel
theorem dX1_worth_58 : decode cX1_worth 58 = .ok (.ireturn, 1) := by decide +kernel
theorem dX1_worth_59 : decode cX1_worth 59 = .ok (.iload_n 1, 1) := by decide +kernel
theorem dX1_worth_60 : decode cX1_worth 60 = .ok (.ireturn, 1) := by decide +kernel
theorem dX2_init_0 : decode cX2_init 0 = .ok (.aload_n 0, 1) := by decide +kernel
theorem dX2_init_1 : decode cX2_init 1 = .ok (.invokespecial 1, 3) := by decide +kernel
theorem dX2_init_4 : decode cX2_init 4 = .ok (.aload_n 0, 1) := by decide +kernel
theorem dX2_init_5 : decode cX2_init 5 = .ok (.iload_n 1, 1) := by decide +kernel
theorem dX2_init_6 : decode cX2_init 6 = .ok (.putfield 7, 3) := by decide +kernel
theorem dX2_init_9 : decode cX2_init 9 = .ok (.aload_n 0, 1) := by decide +kernel
theorem dX2_init_10 : decode cX2_init 10 = .ok (.iload_n 2, 1) := by decide +kernel
theorem dX2_init_11 : decode cX2_init 11 = .ok (.putfield 13, 3) := by decide +kernel
theorem dX2_init_14 : decode cX2_init 14 = .ok (.aload_n 0, 1) := by decide +kernel
theorem dX2_init_15 : decode cX2_init 15 = .ok (.aload_n 3, 1) := by decide +kernel
theorem dX2_init_16 : decode cX2_init 16 = .ok (.putfield 16, 3) := by decide +kernel
theorem dX2_init_19 : decode cX2_init 19 = .ok (.aload_n 0, 1) := by decide +kernel
theorem dX2_init_20 : decode cX2_init 20 = .ok (.iload_n 2, 1) := by decide +kernel
theorem dX2_init_21 : decode cX2_init 21 = .ok (.newarray .int, 2) := by decide +kernel
theorem dX2_init_23 : decode cX2_init 23 = .ok (.putfield 20, 3) := by decide +kernel
theorem dX2_init_26 : decode cX2_init 26 = .ok (.return_, 1) := by decide +kernel
theorem dX2_namesOf_0 : decode cX2_namesOf 0 = .ok (.iload_n 0, 1) := by decide +kernel
theorem dX2_namesOf_1 : decode cX2_namesOf 1 = .ok (.ifCond .ne 8, 3) := by decide +kernel
theorem dX2_namesOf_4 : decode cX2_namesOf 4 = .ok (.ldc 23, 2) := by decide +kernel
theorem dX2_namesOf_6 : decode cX2_namesOf 6 = .ok (.goto 15, 3) := by decide +kernel
theorem dX2_namesOf_9 : decode cX2_namesOf 9 = .ok (.iload_n 0, 1) := by decide +kernel
theorem dX2_namesOf_10 : decode cX2_namesOf 10 = .ok (.iconst 1, 1) := by decide +kernel
theorem dX2_namesOf_11 : decode cX2_namesOf 11 = .ok (.if_icmp .ne 8, 3) := by decide +kernel
theorem dX2_namesOf_14 : decode cX2_namesOf 14 = .ok (.ldc 25, 2) := by decide +kernel
theorem dX2_namesOf_16 : decode cX2_namesOf 16 = .ok (.goto 5, 3) := by decide +kernel
theorem dX2_namesOf_19 : decode cX2_namesOf 19 = .ok (.ldc 27, 2) := by decide +kernel
theorem dX2_namesOf_21 : decode cX2_namesOf 21 = .ok (.areturn, 1) := by decide +kernel
theorem dX2_gives_0 : decode cX2_gives 0 = .ok (.iconst 0, 1) := by decide +kernel
theorem dX2_gives_1 : decode cX2_gives 1 = .ok (.istore 4, 2) := by decide +kernel
theorem dX2_gives_3 : decode cX2_gives 3 = .ok (.iconst 0, 1) := by decide +kernel
theorem dX2_gives_4 : decode cX2_gives 4 = .ok (.istore 5, 2) := by decide +kernel
theorem dX2_gives_6 : decode cX2_gives 6 = .ok (.iload 5, 2) := by decide +kernel
theorem dX2_gives_8 : decode cX2_gives 8 = .ok (.aload_n 0, 1) := by decide +kernel
theorem dX2_gives_9 : decode cX2_gives 9 = .ok (.getfield 16, 3) := by decide +kernel
theorem dX2_gives_12 : decode cX2_gives 12 = .ok (.arraylength, 1) := by decide +kernel
theorem dX2_gives_13 : decode cX2_gives 13 = .ok (.if_icmp .ge 161, 3) := by decide +kernel
theorem dX2_gives_16 : decode cX2_gives 16 = .ok (.aload_n 0, 1) := by decide +kernel
theorem dX2_gives_17 : decode cX2_gives 17 = .ok (.getfield 16, 3) := by decide +kernel
theorem dX2_gives_20 : decode cX2_gives 20 = .ok (.iload 5, 2) := by decide +kernel
theorem dX2_gives_22 : decode cX2_gives 22 = .ok (.iaload, 1) := by decide +kernel
theorem dX2_gives_23 : decode cX2_gives 23 = .ok (.istore 6, 2) := by decide +kernel
theorem dX2_gives_25 : decode cX2_gives 25 = .ok (.iload 6, 2) := by decide +kernel
theorem dX2_gives_27 : decode cX2_gives 27 = .ok (.bipush (-3), 2) := by decide +kernel
theorem dX2_gives_29 : decode cX2_gives 29 = .ok (.if_icmp .lt 58, 3) := by decide +kernel
theorem dX2_gives_32 : decode cX2_gives 32 = .ok (.iload 4, 2) := by decide +kernel
theorem dX2_gives_34 : decode cX2_gives 34 = .ok (.aload_n 0, 1) := by decide +kernel
theorem dX2_gives_35 : decode cX2_gives 35 = .ok (.getfield 20, 3) := by decide +kernel
theorem dX2_gives_38 : decode cX2_gives 38 = .ok (.arraylength, 1) := by decide +kernel
theorem dX2_gives_39 : decode cX2_gives 39 = .ok (.if_icmp .ge 129, 3) := by decide +kernel
theorem dX2_gives_42 : decode cX2_gives 42 = .ok (.aload_n 0, 1) := by decide +kernel
theorem dX2_gives_43 : decode cX2_gives 43 = .ok (.getfield 20, 3) := by decide +kernel
theorem dX2_gives_46 : decode cX2_gives 46 = .ok (.iload 4, 2) := by decide +kernel
theorem dX2_gives_48 : decode cX2_gives 48 = .ok (.iload 6, 2) := by decide +kernel
theorem dX2_gives_50 : decode cX2_gives 50 = .ok (.ifCond .lt 8, 3) := by decide +kernel
theorem dX2_gives_53 : decode cX2_gives 53 = .ok (.iload 6, 2) := by decide +kernel
theorem dX2_gives_55 : decode cX2_gives 55 = .ok (.goto 25, 3) := by decide +kernel
theorem dX2_gives_58 : decode cX2_gives 58 = .ok (.iload 6, 2) := by decide +kernel
theorem dX2_gives_60 : decode cX2_gives 60 = .ok (.iconst (-1), 1) := by decide +kernel
theorem dX2_gives_61 : decode cX2_gives 61 = .ok (.if_icmp .ne 7, 3) := by decide +kernel
theorem dX2_gives_64 : decode cX2_gives 64 = .ok (.iload_n 1, 1) := by decide +kernel
theorem dX2_gives_65 : decode cX2_gives 65 = .ok (.goto 15, 3) := by decide +kernel
theorem dX2_gives_68 : decode cX2_gives 68 = .ok (.iload 6, 2) := by decide +kernel
theorem dX2_gives_70 : decode cX2_gives 70 = .ok (.bipush (-2), 2) := by decide +kernel
theorem dX2_gives_72 : decode cX2_gives 72 = .ok (.if_icmp .ne 7, 3) := by decide +kernel
theorem dX2_gives_75 : decode cX2_gives 75 = .ok (.iload_n 2, 1) := by decide +kernel
theorem dX2_gives_76 : decode cX2_gives 76 = .ok (.goto 4, 3) := by decide +kernel
theorem dX2_gives_79 : decode cX2_gives 79 = .ok (.iload_n 3, 1) := by decide +kernel
theorem dX2_gives_80 : decode cX2_gives 80 = .ok (.iastore, 1) := by decide +kernel
theorem dX2_gives_81 : decode cX2_gives 81 = .ok (.iinc 4 1, 3) := by decide +kernel
theorem dX2_gives_84 : decode cX2_gives 84 = .ok (.goto 84, 3) := by decide +kernel
theorem dX2_gives_87 : decode cX2_gives 87 = .ok (.iload 6, 2) := by decide +kernel
theorem dX2_gives_89 : decode cX2_gives 89 = .ok (.bipush (-33), 2) := by decide +kernel
theorem dX2_gives_91 : decode cX2_gives 91 = .ok (.if_icmp .ne 37, 3) := by decide +kernel
theorem dX2_gives_94 : decode cX2_gives 94 = .ok (.iload 4, 2) := by decide +kernel
theorem dX2_gives_96 : decode cX2_gives 96 = .ok (.ifCond .le 72, 3) := by decide +kernel
theorem dX2_gives_99 : decode cX2_gives 99 = .ok (.aload_n 0, 1) := by decide +kernel
theorem dX2_gives_100 : decode cX2_gives 100 = .ok (.getfield 20, 3) := by decide +kernel
theorem dX2_gives_103 : decode cX2_gives 103 = .ok (.iload 4, 2) := by decide +kernel
theorem dX2_gives_105 : decode cX2_gives 105 = .ok (.iconst 1, 1) := by decide +kernel
theorem dX2_gives_106 : decode cX2_gives 106 = .ok (.isub, 1) := by decide +kernel
theorem dX2_gives_107 : decode cX2_gives 107 = .ok (.aload_n 0, 1) := by decide +kernel
theorem dX2_gives_108 : decode cX2_gives 108 = .ok (.getfield 20, 3) := by decide +kernel
theorem dX2_gives_111 : decode cX2_gives 111 = .ok (.iload 4, 2) := by decide +kernel
theorem dX2_gives_113 : decode cX2_gives 113 = .ok (.iconst 1, 1) := by decide +kernel
theorem dX2_gives_114 : decode cX2_gives 114 = .ok (.isub, 1) := by decide +kernel
theorem dX2_gives_115 : decode cX2_gives 115 = .ok (.iaload, 1) := by decide +kernel
theorem dX2_gives_116 : decode cX2_gives 116 = .ok (.ifCond .ne 7, 3) := by decide +kernel
theorem dX2_gives_119 : decode cX2_gives 119 = .ok (.iconst 1, 1) := by decide +kernel
theorem dX2_gives_120 : decode cX2_gives 120 = .ok (.goto 4, 3) := by decide +kernel
theorem dX2_gives_123 : decode cX2_gives 123 = .ok (.iconst 0, 1) := by decide +kernel
theorem dX2_gives_124 : decode cX2_gives 124 = .ok (.iastore, 1) := by decide +kernel
theorem dX2_gives_125 : decode cX2_gives 125 = .ok (.goto 43, 3) := by decide +kernel
theorem dX2_gives_128 : decode cX2_gives 128 = .ok (.iload 4, 2) := by decide +kernel
theorem dX2_gives_130 : decode cX2_gives 130 = .ok (.iconst 1, 1) := by decide +kernel
theorem dX2_gives_131 : decode cX2_gives 131 = .ok (.if_icmp .le 37, 3) := by decide +kernel
theorem dX2_gives_134 : decode cX2_gives 134 = .ok (.iinc 4 (-1), 3) := by decide +kernel
theorem dX2_gives_137 : decode cX2_gives 137 = .ok (.aload_n 0, 1) := by decide +kernel
theorem dX2_gives_138 : decode cX2_gives 138 = .ok (.getfield 20, 3) := by decide +kernel
theorem dX2_gives_141 : decode cX2_gives 141 = .ok (.iload 4, 2) := by decide +kernel
theorem dX2_gives_143 : decode cX2_gives 143 = .ok (.iconst 1, 1) := by decide +kernel
theorem dX2_gives_144 : decode cX2_gives 144 = .ok (.isub, 1) := by decide +kernel
theorem dX2_gives_145 : decode cX2_gives 145 = .ok (.iload 6, 2) := by decide +kernel
theorem dX2_gives_147 : decode cX2_gives 147 = .ok (.ineg, 1) := by decide +kernel
theorem dX2_gives_148 : decode cX2_gives 148 = .ok (.aload_n 0, 1) := by decide +kernel
theorem dX2_gives_149 : decode cX2_gives 149 = .ok (.getfield 20, 3) := by decide +kernel
theorem dX2_gives_152 : decode cX2_gives 152 = .ok (.iload 4, 2) := by decide +kernel
theorem dX2_gives_154 : decode cX2_gives 154 = .ok (.iconst 1, 1) := by decide +kernel
theorem dX2_gives_155 : decode cX2_gives 155 = .ok (.isub, 1) := by decide +kernel
theorem dX2_gives_156 : decode cX2_gives 156 = .ok (.iaload, 1) := by decide +kernel
theorem dX2_gives_157 : decode cX2_gives 157 = .ok (.aload_n 0, 1) := by decide +kernel
theorem dX2_gives_158 : decode cX2_gives 158 = .ok (.getfield 20, 3) := by decide +kernel
theorem dX2_gives_161 : decode cX2_gives 161 = .ok (.iload 4, 2) := by decide +kernel
theorem dX2_gives_163 : decode cX2_gives 163 = .ok (.iaload, 1) := by decide +kernel
theorem dX2_gives_164 : decode cX2_gives 164 = .ok (.invokestatic 29, 3) := by decide +kernel
theorem dX2_gives_167 : decode cX2_gives 167 = .ok (.iastore, 1) := by decide +kernel
theorem dX2_gives_168 : decode cX2_gives 168 = .ok (.iinc 5 1, 3) := by decide +kernel
theorem dX2_gives_171 : decode cX2_gives 171 = .ok (.goto (-165), 3) := by decide +kernel
theorem dX2_gives_174 : decode cX2_gives 174 = .ok (.iload 4, 2) := by decide +kernel
theorem dX2_gives_176 : decode cX2_gives 176 = .ok (.ifCond .le 12, 3) := by decide +kernel
theorem dX2_gives_179 : decode cX2_gives 179 = .ok (.aload_n 0, 1) := by decide +kernel
theorem dX2_gives_180 : decode cX2_gives 180 = .ok (.getfield 20, 3) := by decide +kernel
theorem dX2_gives_183 : decode cX2_gives 183 = .ok (.iconst 0, 1) := by decide +kernel
theorem dX2_gives_184 : decode cX2_gives 184 = .ok (.iaload, 1) := by decide +kernel
theorem dX2_gives_185 : decode cX2_gives 185 = .ok (.goto 4, 3) := by decide +kernel
theorem dX2_gives_188 : decode cX2_gives 188 = .ok (.iconst 0, 1) := by decide +kernel
theorem dX2_gives_189 : decode cX2_gives 189 = .ok (.ireturn, 1) := by decide +kernel
theorem dX2_joined_0 : decode cX2_joined 0 = .ok (.iload_n 0, 1) := by decide +kernel
theorem dX2_joined_1 : decode cX2_joined 1 = .ok (.lookupswitch 148 #[(38, 89), (42, 144), (43, 136), (45, 140), (60, 103), (61, 114), (62, 125), (124, 75)], 75) := by decide +kernel
theorem dX2_joined_76 : decode cX2_joined 76 = .ok (.iload_n 1, 1) := by decide +kernel
theorem dX2_joined_77 : decode cX2_joined 77 = .ok (.ifCond .ne 7, 3) := by decide +kernel
theorem dX2_joined_80 : decode cX2_joined 80 = .ok (.iload_n 2, 1) := by decide +kernel
theorem dX2_joined_81 : decode cX2_joined 81 = .ok (.ifCond .eq 7, 3) := by decide +kernel
theorem dX2_joined_84 : decode cX2_joined 84 = .ok (.iconst 1, 1) := by decide +kernel
theorem dX2_joined_85 : decode cX2_joined 85 = .ok (.goto 4, 3) := by decide +kernel
theorem dX2_joined_88 : decode cX2_joined 88 = .ok (.iconst 0, 1) := by decide +kernel
theorem dX2_joined_89 : decode cX2_joined 89 = .ok (.ireturn, 1) := by decide +kernel
theorem dX2_joined_90 : decode cX2_joined 90 = .ok (.iload_n 1, 1) := by decide +kernel
theorem dX2_joined_91 : decode cX2_joined 91 = .ok (.ifCond .eq 11, 3) := by decide +kernel
theorem dX2_joined_94 : decode cX2_joined 94 = .ok (.iload_n 2, 1) := by decide +kernel
theorem dX2_joined_95 : decode cX2_joined 95 = .ok (.ifCond .eq 7, 3) := by decide +kernel
theorem dX2_joined_98 : decode cX2_joined 98 = .ok (.iconst 1, 1) := by decide +kernel
theorem dX2_joined_99 : decode cX2_joined 99 = .ok (.goto 4, 3) := by decide +kernel
theorem dX2_joined_102 : decode cX2_joined 102 = .ok (.iconst 0, 1) := by decide +kernel
theorem dX2_joined_103 : decode cX2_joined 103 = .ok (.ireturn, 1) := by decide +kernel
theorem dX2_joined_104 : decode cX2_joined 104 = .ok (.iload_n 1, 1) := by decide +kernel
theorem dX2_joined_105 : decode cX2_joined 105 = .ok (.iload_n 2, 1) := by decide +kernel
theorem dX2_joined_106 : decode cX2_joined 106 = .ok (.if_icmp .ge 7, 3) := by decide +kernel
theorem dX2_joined_109 : decode cX2_joined 109 = .ok (.iconst 1, 1) := by decide +kernel
theorem dX2_joined_110 : decode cX2_joined 110 = .ok (.goto 4, 3) := by decide +kernel
theorem dX2_joined_113 : decode cX2_joined 113 = .ok (.iconst 0, 1) := by decide +kernel
theorem dX2_joined_114 : decode cX2_joined 114 = .ok (.ireturn, 1) := by decide +kernel
theorem dX2_joined_115 : decode cX2_joined 115 = .ok (.iload_n 1, 1) := by decide +kernel
theorem dX2_joined_116 : decode cX2_joined 116 = .ok (.iload_n 2, 1) := by decide +kernel
theorem dX2_joined_117 : decode cX2_joined 117 = .ok (.if_icmp .ne 7, 3) := by decide +kernel
theorem dX2_joined_120 : decode cX2_joined 120 = .ok (.iconst 1, 1) := by decide +kernel
theorem dX2_joined_121 : decode cX2_joined 121 = .ok (.goto 4, 3) := by decide +kernel
theorem dX2_joined_124 : decode cX2_joined 124 = .ok (.iconst 0, 1) := by decide +kernel
theorem dX2_joined_125 : decode cX2_joined 125 = .ok (.ireturn, 1) := by decide +kernel
theorem dX2_joined_126 : decode cX2_joined 126 = .ok (.iload_n 1, 1) := by decide +kernel
theorem dX2_joined_127 : decode cX2_joined 127 = .ok (.iload_n 2, 1) := by decide +kernel
theorem dX2_joined_128 : decode cX2_joined 128 = .ok (.if_icmp .le 7, 3) := by decide +kernel
theorem dX2_joined_131 : decode cX2_joined 131 = .ok (.iconst 1, 1) := by decide +kernel
theorem dX2_joined_132 : decode cX2_joined 132 = .ok (.goto 4, 3) := by decide +kernel
theorem dX2_joined_135 : decode cX2_joined 135 = .ok (.iconst 0, 1) := by decide +kernel
theorem dX2_joined_136 : decode cX2_joined 136 = .ok (.ireturn, 1) := by decide +kernel
theorem dX2_joined_137 : decode cX2_joined 137 = .ok (.iload_n 1, 1) := by decide +kernel
theorem dX2_joined_138 : decode cX2_joined 138 = .ok (.iload_n 2, 1) := by decide +kernel
theorem dX2_joined_139 : decode cX2_joined 139 = .ok (.iadd, 1) := by decide +kernel
theorem dX2_joined_140 : decode cX2_joined 140 = .ok (.ireturn, 1) := by decide +kernel
theorem dX2_joined_141 : decode cX2_joined 141 = .ok (.iload_n 1, 1) := by decide +kernel
theorem dX2_joined_142 : decode cX2_joined 142 = .ok (.iload_n 2, 1) := by decide +kernel
theorem dX2_joined_143 : decode cX2_joined 143 = .ok (.isub, 1) := by decide +kernel
theorem dX2_joined_144 : decode cX2_joined 144 = .ok (.ireturn, 1) := by decide +kernel
theorem dX2_joined_145 : decode cX2_joined 145 = .ok (.iload_n 1, 1) := by decide +kernel
theorem dX2_joined_146 : decode cX2_joined 146 = .ok (.iload_n 2, 1) := by decide +kernel
theorem dX2_joined_147 : decode cX2_joined 147 = .ok (.imul, 1) := by decide +kernel
theorem dX2_joined_148 : decode cX2_joined 148 = .ok (.ireturn, 1) := by decide +kernel
theorem dX2_joined_149 : decode cX2_joined 149 = .ok (.iload_n 2, 1) := by decide +kernel
theorem dX2_joined_150 : decode cX2_joined 150 = .ok (.ifCond .ne 7, 3) := by decide +kernel
theorem dX2_joined_153 : decode cX2_joined 153 = .ok (.iconst 0, 1) := by decide +kernel
theorem dX2_joined_154 : decode cX2_joined 154 = .ok (.goto 6, 3) := by decide +kernel
theorem dX2_joined_157 : decode cX2_joined 157 = .ok (.iload_n 1, 1) := by decide +kernel
theorem dX2_joined_158 : decode cX2_joined 158 = .ok (.iload_n 2, 1) := by decide +kernel
theorem dX2_joined_159 : decode cX2_joined 159 = .ok (.idiv, 1) := by decide +kernel
theorem dX2_joined_160 : decode cX2_joined 160 = .ok (.ireturn, 1) := by decide +kernel
theorem dX3_init_0 : decode cX3_init 0 = .ok (.aload_n 0, 1) := by decide +kernel
theorem dX3_init_1 : decode cX3_init 1 = .ok (.invokespecial 1, 3) := by decide +kernel
theorem dX3_init_4 : decode cX3_init 4 = .ok (.aload_n 0, 1) := by decide +kernel
theorem dX3_init_5 : decode cX3_init 5 = .ok (.iconst 0, 1) := by decide +kernel
theorem dX3_init_6 : decode cX3_init 6 = .ok (.putfield 9, 3) := by decide +kernel
theorem dX3_init_9 : decode cX3_init 9 = .ok (.aload_n 0, 1) := by decide +kernel
theorem dX3_init_10 : decode cX3_init 10 = .ok (.iconst 0, 1) := by decide +kernel
theorem dX3_init_11 : decode cX3_init 11 = .ok (.putfield 15, 3) := by decide +kernel
theorem dX3_init_14 : decode cX3_init 14 = .ok (.aload_n 0, 1) := by decide +kernel
theorem dX3_init_15 : decode cX3_init 15 = .ok (.bipush 96, 2) := by decide +kernel
theorem dX3_init_17 : decode cX3_init 17 = .ok (.newarray .int, 2) := by decide +kernel
theorem dX3_init_19 : decode cX3_init 19 = .ok (.putfield 20, 3) := by decide +kernel
theorem dX3_init_22 : decode cX3_init 22 = .ok (.aload_n 0, 1) := by decide +kernel
theorem dX3_init_23 : decode cX3_init 23 = .ok (.iconst 0, 1) := by decide +kernel
theorem dX3_init_24 : decode cX3_init 24 = .ok (.putfield 24, 3) := by decide +kernel
theorem dX3_init_27 : decode cX3_init 27 = .ok (.aload_n 0, 1) := by decide +kernel
theorem dX3_init_28 : decode cX3_init 28 = .ok (.iconst 0, 1) := by decide +kernel
theorem dX3_init_29 : decode cX3_init 29 = .ok (.putfield 27, 3) := by decide +kernel
theorem dX3_init_32 : decode cX3_init 32 = .ok (.aload_n 0, 1) := by decide +kernel
theorem dX3_init_33 : decode cX3_init 33 = .ok (.iconst 0, 1) := by decide +kernel
theorem dX3_init_34 : decode cX3_init 34 = .ok (.putfield 30, 3) := by decide +kernel
theorem dX3_init_37 : decode cX3_init 37 = .ok (.aload_n 0, 1) := by decide +kernel
theorem dX3_init_38 : decode cX3_init 38 = .ok (.aload_n 1, 1) := by decide +kernel
theorem dX3_init_39 : decode cX3_init 39 = .ok (.putfield 33, 3) := by decide +kernel
theorem dX3_init_42 : decode cX3_init 42 = .ok (.return_, 1) := by decide +kernel
theorem dX3_isText_0 : decode cX3_isText 0 = .ok (.aload_n 0, 1) := by decide +kernel
theorem dX3_isText_1 : decode cX3_isText 1 = .ok (.iconst 0, 1) := by decide +kernel
theorem dX3_isText_2 : decode cX3_isText 2 = .ok (.putfield 15, 3) := by decide +kernel
theorem dX3_isText_5 : decode cX3_isText 5 = .ok (.aload_n 0, 1) := by decide +kernel
theorem dX3_isText_6 : decode cX3_isText 6 = .ok (.iconst 0, 1) := by decide +kernel
theorem dX3_isText_7 : decode cX3_isText 7 = .ok (.putfield 24, 3) := by decide +kernel
theorem dX3_isText_10 : decode cX3_isText 10 = .ok (.aload_n 0, 1) := by decide +kernel
theorem dX3_isText_11 : decode cX3_isText 11 = .ok (.iconst 0, 1) := by decide +kernel
theorem dX3_isText_12 : decode cX3_isText 12 = .ok (.putfield 27, 3) := by decide +kernel
theorem dX3_isText_15 : decode cX3_isText 15 = .ok (.aload_n 0, 1) := by decide +kernel
theorem dX3_isText_16 : decode cX3_isText 16 = .ok (.iconst 0, 1) := by decide +kernel
theorem dX3_isText_17 : decode cX3_isText 17 = .ok (.putfield 30, 3) := by decide +kernel
theorem dX3_isText_20 : decode cX3_isText 20 = .ok (.aload_n 0, 1) := by decide +kernel
theorem dX3_isText_21 : decode cX3_isText 21 = .ok (.getfield 33, 3) := by decide +kernel
theorem dX3_isText_24 : decode cX3_isText 24 = .ok (.invokevirtual 37, 3) := by decide +kernel
theorem dX3_isText_27 : decode cX3_isText 27 = .ok (.aload_n 0, 1) := by decide +kernel
theorem dX3_isText_28 : decode cX3_isText 28 = .ok (.invokevirtual 40, 3) := by decide +kernel
theorem dX3_isText_31 : decode cX3_isText 31 = .ok (.ifCond .eq 25, 3) := by decide +kernel
theorem dX3_isText_34 : decode cX3_isText 34 = .ok (.aload_n 0, 1) := by decide +kernel
theorem dX3_isText_35 : decode cX3_isText 35 = .ok (.iconst 0, 1) := by decide +kernel
theorem dX3_isText_36 : decode cX3_isText 36 = .ok (.invokevirtual 44, 3) := by decide +kernel
theorem dX3_isText_39 : decode cX3_isText 39 = .ok (.ifCond .eq 17, 3) := by decide +kernel
theorem dX3_isText_42 : decode cX3_isText 42 = .ok (.aload_n 0, 1) := by decide +kernel
theorem dX3_isText_43 : decode cX3_isText 43 = .ok (.getfield 33, 3) := by decide +kernel
theorem dX3_isText_46 : decode cX3_isText 46 = .ok (.getfield 48, 3) := by decide +kernel
theorem dX3_isText_49 : decode cX3_isText 49 = .ok (.ifCond .ne 7, 3) := by decide +kernel
theorem dX3_isText_52 : decode cX3_isText 52 = .ok (.iconst 1, 1) := by decide +kernel
theorem dX3_isText_53 : decode cX3_isText 53 = .ok (.goto 4, 3) := by decide +kernel
theorem dX3_isText_56 : decode cX3_isText 56 = .ok (.iconst 0, 1) := by decide +kernel
theorem dX3_isText_57 : decode cX3_isText 57 = .ok (.ireturn, 1) := by decide +kernel
theorem dX3_law_0 : decode cX3_law 0 = .ok (.new 7, 3) := by decide +kernel
theorem dX3_law_3 : decode cX3_law 3 = .ok (.dup, 1) := by decide +kernel
theorem dX3_law_4 : decode cX3_law 4 = .ok (.aload_n 0, 1) := by decide +kernel
theorem dX3_law_5 : decode cX3_law 5 = .ok (.getfield 9, 3) := by decide +kernel
theorem dX3_law_8 : decode cX3_law 8 = .ok (.aload_n 0, 1) := by decide +kernel
theorem dX3_law_9 : decode cX3_law 9 = .ok (.getfield 15, 3) := by decide +kernel
theorem dX3_law_12 : decode cX3_law 12 = .ok (.aload_n 0, 1) := by decide +kernel
theorem dX3_law_13 : decode cX3_law 13 = .ok (.getfield 20, 3) := by decide +kernel
theorem dX3_law_16 : decode cX3_law 16 = .ok (.aload_n 0, 1) := by decide +kernel
theorem dX3_law_17 : decode cX3_law 17 = .ok (.getfield 24, 3) := by decide +kernel
theorem dX3_law_20 : decode cX3_law 20 = .ok (.invokestatic 51, 3) := by decide +kernel
theorem dX3_law_23 : decode cX3_law 23 = .ok (.invokespecial 57, 3) := by decide +kernel
theorem dX3_law_26 : decode cX3_law 26 = .ok (.areturn, 1) := by decide +kernel
theorem dX3_isKey_0 : decode cX3_isKey 0 = .ok (.aload_n 0, 1) := by decide +kernel
theorem dX3_isKey_1 : decode cX3_isKey 1 = .ok (.getfield 33, 3) := by decide +kernel
theorem dX3_isKey_4 : decode cX3_isKey 4 = .ok (.ldc 60, 2) := by decide +kernel
theorem dX3_isKey_6 : decode cX3_isKey 6 = .ok (.invokevirtual 62, 3) := by decide +kernel
theorem dX3_isKey_9 : decode cX3_isKey 9 = .ok (.ifCond .eq 11, 3) := by decide +kernel
theorem dX3_isKey_12 : decode cX3_isKey 12 = .ok (.aload_n 0, 1) := by decide +kernel
theorem dX3_isKey_13 : decode cX3_isKey 13 = .ok (.iconst 0, 1) := by decide +kernel
theorem dX3_isKey_14 : decode cX3_isKey 14 = .ok (.putfield 9, 3) := by decide +kernel
theorem dX3_isKey_17 : decode cX3_isKey 17 = .ok (.goto 45, 3) := by decide +kernel
theorem dX3_isKey_20 : decode cX3_isKey 20 = .ok (.aload_n 0, 1) := by decide +kernel
theorem dX3_isKey_21 : decode cX3_isKey 21 = .ok (.getfield 33, 3) := by decide +kernel
theorem dX3_isKey_24 : decode cX3_isKey 24 = .ok (.ldc 66, 2) := by decide +kernel
theorem dX3_isKey_26 : decode cX3_isKey 26 = .ok (.invokevirtual 62, 3) := by decide +kernel
theorem dX3_isKey_29 : decode cX3_isKey 29 = .ok (.ifCond .eq 11, 3) := by decide +kernel
theorem dX3_isKey_32 : decode cX3_isKey 32 = .ok (.aload_n 0, 1) := by decide +kernel
theorem dX3_isKey_33 : decode cX3_isKey 33 = .ok (.iconst 1, 1) := by decide +kernel
theorem dX3_isKey_34 : decode cX3_isKey 34 = .ok (.putfield 9, 3) := by decide +kernel
theorem dX3_isKey_37 : decode cX3_isKey 37 = .ok (.goto 25, 3) := by decide +kernel
theorem dX3_isKey_40 : decode cX3_isKey 40 = .ok (.aload_n 0, 1) := by decide +kernel
theorem dX3_isKey_41 : decode cX3_isKey 41 = .ok (.getfield 33, 3) := by decide +kernel
theorem dX3_isKey_44 : decode cX3_isKey 44 = .ok (.ldc 68, 2) := by decide +kernel
theorem dX3_isKey_46 : decode cX3_isKey 46 = .ok (.invokevirtual 62, 3) := by decide +kernel
theorem dX3_isKey_49 : decode cX3_isKey 49 = .ok (.ifCond .eq 11, 3) := by decide +kernel
theorem dX3_isKey_52 : decode cX3_isKey 52 = .ok (.aload_n 0, 1) := by decide +kernel
theorem dX3_isKey_53 : decode cX3_isKey 53 = .ok (.iconst 2, 1) := by decide +kernel
theorem dX3_isKey_54 : decode cX3_isKey 54 = .ok (.putfield 9, 3) := by decide +kernel
theorem dX3_isKey_57 : decode cX3_isKey 57 = .ok (.goto 5, 3) := by decide +kernel
theorem dX3_isKey_60 : decode cX3_isKey 60 = .ok (.iconst 0, 1) := by decide +kernel
theorem dX3_isKey_61 : decode cX3_isKey 61 = .ok (.ireturn, 1) := by decide +kernel
theorem dX3_isKey_62 : decode cX3_isKey 62 = .ok (.aload_n 0, 1) := by decide +kernel
theorem dX3_isKey_63 : decode cX3_isKey 63 = .ok (.getfield 33, 3) := by decide +kernel
theorem dX3_isKey_66 : decode cX3_isKey 66 = .ok (.invokevirtual 70, 3) := by decide +kernel
theorem dX3_isKey_69 : decode cX3_isKey 69 = .ok (.iconst 1, 1) := by decide +kernel
theorem dX3_isKey_70 : decode cX3_isKey 70 = .ok (.ireturn, 1) := by decide +kernel
theorem dX3_isChain_0 : decode cX3_isChain 0 = .ok (.iload_n 1, 1) := by decide +kernel
theorem dX3_isChain_1 : decode cX3_isChain 1 = .ok (.iconst 4, 1) := by decide +kernel
theorem dX3_isChain_2 : decode cX3_isChain 2 = .ok (.if_icmp .le 8, 3) := by decide +kernel
theorem dX3_isChain_5 : decode cX3_isChain 5 = .ok (.aload_n 0, 1) := by decide +kernel
theorem dX3_isChain_6 : decode cX3_isChain 6 = .ok (.invokevirtual 73, 3) := by decide +kernel
theorem dX3_isChain_9 : decode cX3_isChain 9 = .ok (.ireturn, 1) := by decide +kernel
theorem dX3_isChain_10 : decode cX3_isChain 10 = .ok (.aload_n 0, 1) := by decide +kernel
theorem dX3_isChain_11 : decode cX3_isChain 11 = .ok (.iload_n 1, 1) := by decide +kernel
theorem dX3_isChain_12 : decode cX3_isChain 12 = .ok (.iconst 1, 1) := by decide +kernel
theorem dX3_isChain_13 : decode cX3_isChain 13 = .ok (.iadd, 1) := by decide +kernel
theorem dX3_isChain_14 : decode cX3_isChain 14 = .ok (.invokevirtual 44, 3) := by decide +kernel
theorem dX3_isChain_17 : decode cX3_isChain 17 = .ok (.ifCond .ne 5, 3) := by decide +kernel
theorem dX3_isChain_20 : decode cX3_isChain 20 = .ok (.iconst 0, 1) := by decide +kernel
theorem dX3_isChain_21 : decode cX3_isChain 21 = .ok (.ireturn, 1) := by decide +kernel
theorem dX3_isChain_22 : decode cX3_isChain 22 = .ok (.iload_n 1, 1) := by decide +kernel
theorem dX3_isChain_23 : decode cX3_isChain 23 = .ok (.iconst 2, 1) := by decide +kernel
theorem dX3_isChain_24 : decode cX3_isChain 24 = .ok (.if_icmp .ne 7, 3) := by decide +kernel
theorem dX3_isChain_27 : decode cX3_isChain 27 = .ok (.iconst 1, 1) := by decide +kernel
theorem dX3_isChain_28 : decode cX3_isChain 28 = .ok (.goto 5, 3) := by decide +kernel
theorem dX3_isChain_31 : decode cX3_isChain 31 = .ok (.bipush 96, 2) := by decide +kernel
theorem dX3_isChain_33 : decode cX3_isChain 33 = .ok (.istore_n 2, 1) := by decide +kernel
theorem dX3_isChain_34 : decode cX3_isChain 34 = .ok (.iconst 0, 1) := by decide +kernel
theorem dX3_isChain_35 : decode cX3_isChain 35 = .ok (.istore_n 3, 1) := by decide +kernel
theorem dX3_isChain_36 : decode cX3_isChain 36 = .ok (.iload_n 3, 1) := by decide +kernel
theorem dX3_isChain_37 : decode cX3_isChain 37 = .ok (.iload_n 2, 1) := by decide +kernel
theorem dX3_isChain_38 : decode cX3_isChain 38 = .ok (.if_icmp .ge 58, 3) := by decide +kernel
theorem dX3_isChain_41 : decode cX3_isChain 41 = .ok (.aload_n 0, 1) := by decide +kernel
theorem dX3_isChain_42 : decode cX3_isChain 42 = .ok (.getfield 33, 3) := by decide +kernel
theorem dX3_isChain_45 : decode cX3_isChain 45 = .ok (.invokevirtual 76, 3) := by decide +kernel
theorem dX3_isChain_48 : decode cX3_isChain 48 = .ok (.invokestatic 80, 3) := by decide +kernel
theorem dX3_isChain_51 : decode cX3_isChain 51 = .ok (.iload_n 1, 1) := by decide +kernel
theorem dX3_isChain_52 : decode cX3_isChain 52 = .ok (.if_icmp .ne 44, 3) := by decide +kernel
theorem dX3_isChain_55 : decode cX3_isChain 55 = .ok (.aload_n 0, 1) := by decide +kernel
theorem dX3_isChain_56 : decode cX3_isChain 56 = .ok (.getfield 33, 3) := by decide +kernel
theorem dX3_isChain_59 : decode cX3_isChain 59 = .ok (.invokevirtual 76, 3) := by decide +kernel
theorem dX3_isChain_62 : decode cX3_isChain 62 = .ok (.istore 4, 2) := by decide +kernel
theorem dX3_isChain_64 : decode cX3_isChain 64 = .ok (.aload_n 0, 1) := by decide +kernel
theorem dX3_isChain_65 : decode cX3_isChain 65 = .ok (.getfield 33, 3) := by decide +kernel
theorem dX3_isChain_68 : decode cX3_isChain 68 = .ok (.invokevirtual 70, 3) := by decide +kernel
theorem dX3_isChain_71 : decode cX3_isChain 71 = .ok (.aload_n 0, 1) := by decide +kernel
theorem dX3_isChain_72 : decode cX3_isChain 72 = .ok (.iload_n 1, 1) := by decide +kernel
theorem dX3_isChain_73 : decode cX3_isChain 73 = .ok (.iconst 1, 1) := by decide +kernel
theorem dX3_isChain_74 : decode cX3_isChain 74 = .ok (.iadd, 1) := by decide +kernel
theorem dX3_isChain_75 : decode cX3_isChain 75 = .ok (.invokevirtual 44, 3) := by decide +kernel
theorem dX3_isChain_78 : decode cX3_isChain 78 = .ok (.ifCond .ne 5, 3) := by decide +kernel
theorem dX3_isChain_81 : decode cX3_isChain 81 = .ok (.iconst 0, 1) := by decide +kernel
theorem dX3_isChain_82 : decode cX3_isChain 82 = .ok (.ireturn, 1) := by decide +kernel
theorem dX3_isChain_83 : decode cX3_isChain 83 = .ok (.aload_n 0, 1) := by decide +kernel
theorem dX3_isChain_84 : decode cX3_isChain 84 = .ok (.iload 4, 2) := by decide +kernel
theorem dX3_isChain_86 : decode cX3_isChain 86 = .ok (.ineg, 1) := by decide +kernel
theorem dX3_isChain_87 : decode cX3_isChain 87 = .ok (.invokevirtual 84, 3) := by decide +kernel
theorem dX3_isChain_90 : decode cX3_isChain 90 = .ok (.iinc 3 1, 3) := by decide +kernel
theorem dX3_isChain_93 : decode cX3_isChain 93 = .ok (.goto (-57), 3) := by decide +kernel
theorem dX3_isChain_96 : decode cX3_isChain 96 = .ok (.iconst 1, 1) := by decide +kernel
theorem dX3_isChain_97 : decode cX3_isChain 97 = .ok (.ireturn, 1) := by decide +kernel
theorem dX3_levelOf_0 : decode cX3_levelOf 0 = .ok (.iload_n 0, 1) := by decide +kernel
theorem dX3_levelOf_1 : decode cX3_levelOf 1 = .ok (.lookupswitch 93 #[(38, 85), (42, 91), (43, 89), (45, 89), (47, 91), (60, 87), (61, 87), (62, 87), (124, 83)], 83) := by decide +kernel
theorem dX3_levelOf_84 : decode cX3_levelOf 84 = .ok (.iconst 0, 1) := by decide +kernel
theorem dX3_levelOf_85 : decode cX3_levelOf 85 = .ok (.ireturn, 1) := by decide +kernel
theorem dX3_levelOf_86 : decode cX3_levelOf 86 = .ok (.iconst 1, 1) := by decide +kernel
theorem dX3_levelOf_87 : decode cX3_levelOf 87 = .ok (.ireturn, 1) := by decide +kernel
theorem dX3_levelOf_88 : decode cX3_levelOf 88 = .ok (.iconst 2, 1) := by decide +kernel
theorem dX3_levelOf_89 : decode cX3_levelOf 89 = .ok (.ireturn, 1) := by decide +kernel
theorem dX3_levelOf_90 : decode cX3_levelOf 90 = .ok (.iconst 3, 1) := by decide +kernel
theorem dX3_levelOf_91 : decode cX3_levelOf 91 = .ok (.ireturn, 1) := by decide +kernel
theorem dX3_levelOf_92 : decode cX3_levelOf 92 = .ok (.iconst 4, 1) := by decide +kernel
theorem dX3_levelOf_93 : decode cX3_levelOf 93 = .ok (.ireturn, 1) := by decide +kernel
theorem dX3_levelOf_94 : decode cX3_levelOf 94 = .ok (.iconst (-1), 1) := by decide +kernel
theorem dX3_levelOf_95 : decode cX3_levelOf 95 = .ok (.ireturn, 1) := by decide +kernel
theorem dX3_isPiece_0 : decode cX3_isPiece 0 = .ok (.aload_n 0, 1) := by decide +kernel
theorem dX3_isPiece_1 : decode cX3_isPiece 1 = .ok (.getfield 33, 3) := by decide +kernel
theorem dX3_isPiece_4 : decode cX3_isPiece 4 = .ok (.getfield 48, 3) := by decide +kernel
theorem dX3_isPiece_7 : decode cX3_isPiece 7 = .ok (.iconst 2, 1) := by decide +kernel
theorem dX3_isPiece_8 : decode cX3_isPiece 8 = .ok (.if_icmp .ne 8, 3) := by decide +kernel
theorem dX3_isPiece_11 : decode cX3_isPiece 11 = .ok (.aload_n 0, 1) := by decide +kernel
theorem dX3_isPiece_12 : decode cX3_isPiece 12 = .ok (.invokevirtual 88, 3) := by decide +kernel
theorem dX3_isPiece_15 : decode cX3_isPiece 15 = .ok (.ireturn, 1) := by decide +kernel
theorem dX3_isPiece_16 : decode cX3_isPiece 16 = .ok (.aload_n 0, 1) := by decide +kernel
theorem dX3_isPiece_17 : decode cX3_isPiece 17 = .ok (.getfield 33, 3) := by decide +kernel
theorem dX3_isPiece_20 : decode cX3_isPiece 20 = .ok (.getfield 48, 3) := by decide +kernel
theorem dX3_isPiece_23 : decode cX3_isPiece 23 = .ok (.iconst 1, 1) := by decide +kernel
theorem dX3_isPiece_24 : decode cX3_isPiece 24 = .ok (.if_icmp .ne 8, 3) := by decide +kernel
theorem dX3_isPiece_27 : decode cX3_isPiece 27 = .ok (.aload_n 0, 1) := by decide +kernel
theorem dX3_isPiece_28 : decode cX3_isPiece 28 = .ok (.invokevirtual 91, 3) := by decide +kernel
theorem dX3_isPiece_31 : decode cX3_isPiece 31 = .ok (.ireturn, 1) := by decide +kernel
theorem dX3_isPiece_32 : decode cX3_isPiece 32 = .ok (.aload_n 0, 1) := by decide +kernel
theorem dX3_isPiece_33 : decode cX3_isPiece 33 = .ok (.getfield 33, 3) := by decide +kernel
theorem dX3_isPiece_36 : decode cX3_isPiece 36 = .ok (.invokevirtual 76, 3) := by decide +kernel
theorem dX3_isPiece_39 : decode cX3_isPiece 39 = .ok (.bipush 33, 2) := by decide +kernel
theorem dX3_isPiece_41 : decode cX3_isPiece 41 = .ok (.if_icmp .ne 10, 3) := by decide +kernel
theorem dX3_isPiece_44 : decode cX3_isPiece 44 = .ok (.aload_n 0, 1) := by decide +kernel
theorem dX3_isPiece_45 : decode cX3_isPiece 45 = .ok (.invokevirtual 94, 3) := by decide +kernel
theorem dX3_isPiece_48 : decode cX3_isPiece 48 = .ok (.goto 7, 3) := by decide +kernel
theorem dX3_isPiece_51 : decode cX3_isPiece 51 = .ok (.aload_n 0, 1) := by decide +kernel
theorem dX3_isPiece_52 : decode cX3_isPiece 52 = .ok (.invokevirtual 97, 3) := by decide +kernel
theorem dX3_isPiece_55 : decode cX3_isPiece 55 = .ok (.ireturn, 1) := by decide +kernel
theorem dX3_isNumber_0 : decode cX3_isNumber 0 = .ok (.aload_n 0, 1) := by decide +kernel
theorem dX3_isNumber_1 : decode cX3_isNumber 1 = .ok (.getfield 33, 3) := by decide +kernel
theorem dX3_isNumber_4 : decode cX3_isNumber 4 = .ok (.getfield 100, 3) := by decide +kernel
theorem dX3_isNumber_7 : decode cX3_isNumber 7 = .ok (.aload_n 0, 1) := by decide +kernel
theorem dX3_isNumber_8 : decode cX3_isNumber 8 = .ok (.getfield 33, 3) := by decide +kernel
theorem dX3_isNumber_11 : decode cX3_isNumber 11 = .ok (.getfield 103, 3) := by decide +kernel
theorem dX3_isNumber_14 : decode cX3_isNumber 14 = .ok (.isub, 1) := by decide +kernel
theorem dX3_isNumber_15 : decode cX3_isNumber 15 = .ok (.iconst 4, 1) := by decide +kernel
theorem dX3_isNumber_16 : decode cX3_isNumber 16 = .ok (.if_icmp .gt 21, 3) := by decide +kernel
theorem dX3_isNumber_19 : decode cX3_isNumber 19 = .ok (.aload_n 0, 1) := by decide +kernel
theorem dX3_isNumber_20 : decode cX3_isNumber 20 = .ok (.aload_n 0, 1) := by decide +kernel
theorem dX3_isNumber_21 : decode cX3_isNumber 21 = .ok (.getfield 33, 3) := by decide +kernel
theorem dX3_isNumber_24 : decode cX3_isNumber 24 = .ok (.invokevirtual 106, 3) := by decide +kernel
theorem dX3_isNumber_27 : decode cX3_isNumber 27 = .ok (.invokevirtual 109, 3) := by decide +kernel
theorem dX3_isNumber_30 : decode cX3_isNumber 30 = .ok (.ifCond .eq 7, 3) := by decide +kernel
theorem dX3_isNumber_33 : decode cX3_isNumber 33 = .ok (.iconst 1, 1) := by decide +kernel
theorem dX3_isNumber_34 : decode cX3_isNumber 34 = .ok (.goto 4, 3) := by decide +kernel
theorem dX3_isNumber_37 : decode cX3_isNumber 37 = .ok (.iconst 0, 1) := by decide +kernel
theorem dX3_isNumber_38 : decode cX3_isNumber 38 = .ok (.ireturn, 1) := by decide +kernel
theorem dX3_isName_0 : decode cX3_isName 0 = .ok (.aload_n 0, 1) := by decide +kernel
theorem dX3_isName_1 : decode cX3_isName 1 = .ok (.getfield 9, 3) := by decide +kernel
theorem dX3_isName_4 : decode cX3_isName 4 = .ok (.invokestatic 112, 3) := by decide +kernel
theorem dX3_isName_7 : decode cX3_isName 7 = .ok (.aload_n 0, 1) := by decide +kernel
theorem dX3_isName_8 : decode cX3_isName 8 = .ok (.getfield 33, 3) := by decide +kernel
theorem dX3_isName_11 : decode cX3_isName 11 = .ok (.getfield 116, 3) := by decide +kernel
theorem dX3_isName_14 : decode cX3_isName 14 = .ok (.aload_n 0, 1) := by decide +kernel
theorem dX3_isName_15 : decode cX3_isName 15 = .ok (.getfield 33, 3) := by decide +kernel
theorem dX3_isName_18 : decode cX3_isName 18 = .ok (.getfield 103, 3) := by decide +kernel
theorem dX3_isName_21 : decode cX3_isName 21 = .ok (.iaload, 1) := by decide +kernel
theorem dX3_isName_22 : decode cX3_isName 22 = .ok (.i2c, 1) := by decide +kernel
theorem dX3_isName_23 : decode cX3_isName 23 = .ok (.invokevirtual 119, 3) := by decide +kernel
theorem dX3_isName_26 : decode cX3_isName 26 = .ok (.istore_n 1, 1) := by decide +kernel
theorem dX3_isName_27 : decode cX3_isName 27 = .ok (.aload_n 0, 1) := by decide +kernel
theorem dX3_isName_28 : decode cX3_isName 28 = .ok (.getfield 33, 3) := by decide +kernel
theorem dX3_isName_31 : decode cX3_isName 31 = .ok (.getfield 100, 3) := by decide +kernel
theorem dX3_isName_34 : decode cX3_isName 34 = .ok (.aload_n 0, 1) := by decide +kernel
theorem dX3_isName_35 : decode cX3_isName 35 = .ok (.getfield 33, 3) := by decide +kernel
theorem dX3_isName_38 : decode cX3_isName 38 = .ok (.getfield 103, 3) := by decide +kernel
theorem dX3_isName_41 : decode cX3_isName 41 = .ok (.isub, 1) := by decide +kernel
theorem dX3_isName_42 : decode cX3_isName 42 = .ok (.iconst 1, 1) := by decide +kernel
theorem dX3_isName_43 : decode cX3_isName 43 = .ok (.if_icmp .ne 21, 3) := by decide +kernel
theorem dX3_isName_46 : decode cX3_isName 46 = .ok (.iload_n 1, 1) := by decide +kernel
theorem dX3_isName_47 : decode cX3_isName 47 = .ok (.ifCond .lt 17, 3) := by decide +kernel
theorem dX3_isName_50 : decode cX3_isName 50 = .ok (.aload_n 0, 1) := by decide +kernel
theorem dX3_isName_51 : decode cX3_isName 51 = .ok (.iconst (-1), 1) := by decide +kernel
theorem dX3_isName_52 : decode cX3_isName 52 = .ok (.iload_n 1, 1) := by decide +kernel
theorem dX3_isName_53 : decode cX3_isName 53 = .ok (.isub, 1) := by decide +kernel
theorem dX3_isName_54 : decode cX3_isName 54 = .ok (.invokevirtual 109, 3) := by decide +kernel
theorem dX3_isName_57 : decode cX3_isName 57 = .ok (.ifCond .eq 7, 3) := by decide +kernel
theorem dX3_isName_60 : decode cX3_isName 60 = .ok (.iconst 1, 1) := by decide +kernel
theorem dX3_isName_61 : decode cX3_isName 61 = .ok (.goto 4, 3) := by decide +kernel
theorem dX3_isName_64 : decode cX3_isName 64 = .ok (.iconst 0, 1) := by decide +kernel
theorem dX3_isName_65 : decode cX3_isName 65 = .ok (.ireturn, 1) := by decide +kernel
theorem dX3_isOperand_0 : decode cX3_isOperand 0 = .ok (.aload_n 0, 1) := by decide +kernel
theorem dX3_isOperand_1 : decode cX3_isOperand 1 = .ok (.iload_n 1, 1) := by decide +kernel
theorem dX3_isOperand_2 : decode cX3_isOperand 2 = .ok (.invokevirtual 84, 3) := by decide +kernel
theorem dX3_isOperand_5 : decode cX3_isOperand 5 = .ok (.aload_n 0, 1) := by decide +kernel
theorem dX3_isOperand_6 : decode cX3_isOperand 6 = .ok (.dup, 1) := by decide +kernel
theorem dX3_isOperand_7 : decode cX3_isOperand 7 = .ok (.getfield 15, 3) := by decide +kernel
theorem dX3_isOperand_10 : decode cX3_isOperand 10 = .ok (.iconst 1, 1) := by decide +kernel
theorem dX3_isOperand_11 : decode cX3_isOperand 11 = .ok (.iadd, 1) := by decide +kernel
theorem dX3_isOperand_12 : decode cX3_isOperand 12 = .ok (.putfield 15, 3) := by decide +kernel
theorem dX3_isOperand_15 : decode cX3_isOperand 15 = .ok (.aload_n 0, 1) := by decide +kernel
theorem dX3_isOperand_16 : decode cX3_isOperand 16 = .ok (.getfield 33, 3) := by decide +kernel
theorem dX3_isOperand_19 : decode cX3_isOperand 19 = .ok (.invokevirtual 70, 3) := by decide +kernel
theorem dX3_isOperand_22 : decode cX3_isOperand 22 = .ok (.iconst 1, 1) := by decide +kernel
theorem dX3_isOperand_23 : decode cX3_isOperand 23 = .ok (.ireturn, 1) := by decide +kernel
theorem dX3_isNot_0 : decode cX3_isNot 0 = .ok (.aload_n 0, 1) := by decide +kernel
theorem dX3_isNot_1 : decode cX3_isNot 1 = .ok (.getfield 30, 3) := by decide +kernel
theorem dX3_isNot_4 : decode cX3_isNot 4 = .ok (.bipush 8, 2) := by decide +kernel
theorem dX3_isNot_6 : decode cX3_isNot 6 = .ok (.if_icmp .ne 5, 3) := by decide +kernel
theorem dX3_isNot_9 : decode cX3_isNot 9 = .ok (.iconst 0, 1) := by decide +kernel
theorem dX3_isNot_10 : decode cX3_isNot 10 = .ok (.ireturn, 1) := by decide +kernel
theorem dX3_isNot_11 : decode cX3_isNot 11 = .ok (.aload_n 0, 1) := by decide +kernel
theorem dX3_isNot_12 : decode cX3_isNot 12 = .ok (.dup, 1) := by decide +kernel
theorem dX3_isNot_13 : decode cX3_isNot 13 = .ok (.getfield 30, 3) := by decide +kernel
theorem dX3_isNot_16 : decode cX3_isNot 16 = .ok (.iconst 1, 1) := by decide +kernel
theorem dX3_isNot_17 : decode cX3_isNot 17 = .ok (.iadd, 1) := by decide +kernel
theorem dX3_isNot_18 : decode cX3_isNot 18 = .ok (.putfield 30, 3) := by decide +kernel
theorem dX3_isNot_21 : decode cX3_isNot 21 = .ok (.aload_n 0, 1) := by decide +kernel
theorem dX3_isNot_22 : decode cX3_isNot 22 = .ok (.getfield 33, 3) := by decide +kernel
theorem dX3_isNot_25 : decode cX3_isNot 25 = .ok (.invokevirtual 70, 3) := by decide +kernel
theorem dX3_isNot_28 : decode cX3_isNot 28 = .ok (.aload_n 0, 1) := by decide +kernel
theorem dX3_isNot_29 : decode cX3_isNot 29 = .ok (.invokevirtual 73, 3) := by decide +kernel
theorem dX3_isNot_32 : decode cX3_isNot 32 = .ok (.ifCond .ne 5, 3) := by decide +kernel
theorem dX3_isNot_35 : decode cX3_isNot 35 = .ok (.iconst 0, 1) := by decide +kernel
theorem dX3_isNot_36 : decode cX3_isNot 36 = .ok (.ireturn, 1) := by decide +kernel
theorem dX3_isNot_37 : decode cX3_isNot 37 = .ok (.aload_n 0, 1) := by decide +kernel
theorem dX3_isNot_38 : decode cX3_isNot 38 = .ok (.dup, 1) := by decide +kernel
theorem dX3_isNot_39 : decode cX3_isNot 39 = .ok (.getfield 30, 3) := by decide +kernel
theorem dX3_isNot_42 : decode cX3_isNot 42 = .ok (.iconst 1, 1) := by decide +kernel
theorem dX3_isNot_43 : decode cX3_isNot 43 = .ok (.isub, 1) := by decide +kernel
theorem dX3_isNot_44 : decode cX3_isNot 44 = .ok (.putfield 30, 3) := by decide +kernel
theorem dX3_isNot_47 : decode cX3_isNot 47 = .ok (.aload_n 0, 1) := by decide +kernel
theorem dX3_isNot_48 : decode cX3_isNot 48 = .ok (.bipush (-33), 2) := by decide +kernel
theorem dX3_isNot_50 : decode cX3_isNot 50 = .ok (.invokevirtual 84, 3) := by decide +kernel
theorem dX3_isNot_53 : decode cX3_isNot 53 = .ok (.iconst 1, 1) := by decide +kernel
theorem dX3_isNot_54 : decode cX3_isNot 54 = .ok (.ireturn, 1) := by decide +kernel
theorem dX3_isBracket_0 : decode cX3_isBracket 0 = .ok (.aload_n 0, 1) := by decide +kernel
theorem dX3_isBracket_1 : decode cX3_isBracket 1 = .ok (.getfield 33, 3) := by decide +kernel
theorem dX3_isBracket_4 : decode cX3_isBracket 4 = .ok (.invokevirtual 76, 3) := by decide +kernel
theorem dX3_isBracket_7 : decode cX3_isBracket 7 = .ok (.bipush 40, 2) := by decide +kernel
theorem dX3_isBracket_9 : decode cX3_isBracket 9 = .ok (.if_icmp .ne 12, 3) := by decide +kernel
theorem dX3_isBracket_12 : decode cX3_isBracket 12 = .ok (.aload_n 0, 1) := by decide +kernel
theorem dX3_isBracket_13 : decode cX3_isBracket 13 = .ok (.getfield 27, 3) := by decide +kernel
theorem dX3_isBracket_16 : decode cX3_isBracket 16 = .ok (.bipush 8, 2) := by decide +kernel
theorem dX3_isBracket_18 : decode cX3_isBracket 18 = .ok (.if_icmp .ne 5, 3) := by decide +kernel
theorem dX3_isBracket_21 : decode cX3_isBracket 21 = .ok (.iconst 0, 1) := by decide +kernel
theorem dX3_isBracket_22 : decode cX3_isBracket 22 = .ok (.ireturn, 1) := by decide +kernel
theorem dX3_isBracket_23 : decode cX3_isBracket 23 = .ok (.aload_n 0, 1) := by decide +kernel
theorem dX3_isBracket_24 : decode cX3_isBracket 24 = .ok (.dup, 1) := by decide +kernel
theorem dX3_isBracket_25 : decode cX3_isBracket 25 = .ok (.getfield 27, 3) := by decide +kernel
theorem dX3_isBracket_28 : decode cX3_isBracket 28 = .ok (.iconst 1, 1) := by decide +kernel
theorem dX3_isBracket_29 : decode cX3_isBracket 29 = .ok (.iadd, 1) := by decide +kernel
theorem dX3_isBracket_30 : decode cX3_isBracket 30 = .ok (.putfield 27, 3) := by decide +kernel
theorem dX3_isBracket_33 : decode cX3_isBracket 33 = .ok (.aload_n 0, 1) := by decide +kernel
theorem dX3_isBracket_34 : decode cX3_isBracket 34 = .ok (.getfield 33, 3) := by decide +kernel
theorem dX3_isBracket_37 : decode cX3_isBracket 37 = .ok (.invokevirtual 70, 3) := by decide +kernel
theorem dX3_isBracket_40 : decode cX3_isBracket 40 = .ok (.aload_n 0, 1) := by decide +kernel
theorem dX3_isBracket_41 : decode cX3_isBracket 41 = .ok (.iconst 0, 1) := by decide +kernel
theorem dX3_isBracket_42 : decode cX3_isBracket 42 = .ok (.invokevirtual 44, 3) := by decide +kernel
theorem dX3_isBracket_45 : decode cX3_isBracket 45 = .ok (.ifCond .eq 15, 3) := by decide +kernel
theorem dX3_isBracket_48 : decode cX3_isBracket 48 = .ok (.aload_n 0, 1) := by decide +kernel
theorem dX3_isBracket_49 : decode cX3_isBracket 49 = .ok (.getfield 33, 3) := by decide +kernel
theorem dX3_isBracket_52 : decode cX3_isBracket 52 = .ok (.invokevirtual 76, 3) := by decide +kernel
theorem dX3_isBracket_55 : decode cX3_isBracket 55 = .ok (.bipush 41, 2) := by decide +kernel
theorem dX3_isBracket_57 : decode cX3_isBracket 57 = .ok (.if_icmp .eq 5, 3) := by decide +kernel
theorem dX3_isBracket_60 : decode cX3_isBracket 60 = .ok (.iconst 0, 1) := by decide +kernel
theorem dX3_isBracket_61 : decode cX3_isBracket 61 = .ok (.ireturn, 1) := by decide +kernel
theorem dX3_isBracket_62 : decode cX3_isBracket 62 = .ok (.aload_n 0, 1) := by decide +kernel
theorem dX3_isBracket_63 : decode cX3_isBracket 63 = .ok (.dup, 1) := by decide +kernel
theorem dX3_isBracket_64 : decode cX3_isBracket 64 = .ok (.getfield 27, 3) := by decide +kernel
theorem dX3_isBracket_67 : decode cX3_isBracket 67 = .ok (.iconst 1, 1) := by decide +kernel
theorem dX3_isBracket_68 : decode cX3_isBracket 68 = .ok (.isub, 1) := by decide +kernel
theorem dX3_isBracket_69 : decode cX3_isBracket 69 = .ok (.putfield 27, 3) := by decide +kernel
theorem dX3_isBracket_72 : decode cX3_isBracket 72 = .ok (.aload_n 0, 1) := by decide +kernel
theorem dX3_isBracket_73 : decode cX3_isBracket 73 = .ok (.getfield 33, 3) := by decide +kernel
theorem dX3_isBracket_76 : decode cX3_isBracket 76 = .ok (.invokevirtual 70, 3) := by decide +kernel
theorem dX3_isBracket_79 : decode cX3_isBracket 79 = .ok (.iconst 1, 1) := by decide +kernel
theorem dX3_isBracket_80 : decode cX3_isBracket 80 = .ok (.ireturn, 1) := by decide +kernel
theorem dX3_put_0 : decode cX3_put 0 = .ok (.aload_n 0, 1) := by decide +kernel
theorem dX3_put_1 : decode cX3_put 1 = .ok (.getfield 24, 3) := by decide +kernel
theorem dX3_put_4 : decode cX3_put 4 = .ok (.aload_n 0, 1) := by decide +kernel
theorem dX3_put_5 : decode cX3_put 5 = .ok (.getfield 20, 3) := by decide +kernel
theorem dX3_put_8 : decode cX3_put 8 = .ok (.arraylength, 1) := by decide +kernel
theorem dX3_put_9 : decode cX3_put 9 = .ok (.if_icmp .ge 23, 3) := by decide +kernel
theorem dX3_put_12 : decode cX3_put 12 = .ok (.aload_n 0, 1) := by decide +kernel
theorem dX3_put_13 : decode cX3_put 13 = .ok (.getfield 20, 3) := by decide +kernel
theorem dX3_put_16 : decode cX3_put 16 = .ok (.aload_n 0, 1) := by decide +kernel
theorem dX3_put_17 : decode cX3_put 17 = .ok (.getfield 24, 3) := by decide +kernel
theorem dX3_put_20 : decode cX3_put 20 = .ok (.iload_n 1, 1) := by decide +kernel
theorem dX3_put_21 : decode cX3_put 21 = .ok (.iastore, 1) := by decide +kernel
theorem dX3_put_22 : decode cX3_put 22 = .ok (.aload_n 0, 1) := by decide +kernel
theorem dX3_put_23 : decode cX3_put 23 = .ok (.dup, 1) := by decide +kernel
theorem dX3_put_24 : decode cX3_put 24 = .ok (.getfield 24, 3) := by decide +kernel
theorem dX3_put_27 : decode cX3_put 27 = .ok (.iconst 1, 1) := by decide +kernel
theorem dX3_put_28 : decode cX3_put 28 = .ok (.iadd, 1) := by decide +kernel
theorem dX3_put_29 : decode cX3_put 29 = .ok (.putfield 24, 3) := by decide +kernel
theorem dX3_put_32 : decode cX3_put 32 = .ok (.return_, 1) := by decide +kernel
theorem dX4_init_0 : decode cX4_init 0 = .ok (.aload_n 0, 1) := by decide +kernel
theorem dX4_init_1 : decode cX4_init 1 = .ok (.invokespecial 3, 3) := by decide +kernel
theorem dX4_init_4 : decode cX4_init 4 = .ok (.aload_n 0, 1) := by decide +kernel
theorem dX4_init_5 : decode cX4_init 5 = .ok (.iconst (-1), 1) := by decide +kernel
theorem dX4_init_6 : decode cX4_init 6 = .ok (.putfield 11, 3) := by decide +kernel
theorem dX4_init_9 : decode cX4_init 9 = .ok (.aload_n 0, 1) := by decide +kernel
theorem dX4_init_10 : decode cX4_init 10 = .ok (.iconst 0, 1) := by decide +kernel
theorem dX4_init_11 : decode cX4_init 11 = .ok (.putfield 15, 3) := by decide +kernel
theorem dX4_init_14 : decode cX4_init 14 = .ok (.aload_n 0, 1) := by decide +kernel
theorem dX4_init_15 : decode cX4_init 15 = .ok (.bipush 24, 2) := by decide +kernel
theorem dX4_init_17 : decode cX4_init 17 = .ok (.newarray .int, 2) := by decide +kernel
theorem dX4_init_19 : decode cX4_init 19 = .ok (.putfield 18, 3) := by decide +kernel
theorem dX4_init_22 : decode cX4_init 22 = .ok (.return_, 1) := by decide +kernel
theorem dX4_isMissing_0 : decode cX4_isMissing 0 = .ok (.aload_n 0, 1) := by decide +kernel
theorem dX4_isMissing_1 : decode cX4_isMissing 1 = .ok (.getfield 11, 3) := by decide +kernel
theorem dX4_isMissing_4 : decode cX4_isMissing 4 = .ok (.iconst (-1), 1) := by decide +kernel
theorem dX4_isMissing_5 : decode cX4_isMissing 5 = .ok (.if_icmp .ne 7, 3) := by decide +kernel
theorem dX4_isMissing_8 : decode cX4_isMissing 8 = .ok (.iconst 1, 1) := by decide +kernel
theorem dX4_isMissing_9 : decode cX4_isMissing 9 = .ok (.goto 4, 3) := by decide +kernel
theorem dX4_isMissing_12 : decode cX4_isMissing 12 = .ok (.iconst 0, 1) := by decide +kernel
theorem dX4_isMissing_13 : decode cX4_isMissing 13 = .ok (.ireturn, 1) := by decide +kernel
theorem dX4_has_0 : decode cX4_has 0 = .ok (.iload_n 1, 1) := by decide +kernel
theorem dX4_has_1 : decode cX4_has 1 = .ok (.ifCond .lt 15, 3) := by decide +kernel
theorem dX4_has_4 : decode cX4_has 4 = .ok (.iload_n 1, 1) := by decide +kernel
theorem dX4_has_5 : decode cX4_has 5 = .ok (.aload_n 0, 1) := by decide +kernel
theorem dX4_has_6 : decode cX4_has 6 = .ok (.getfield 15, 3) := by decide +kernel
theorem dX4_has_9 : decode cX4_has 9 = .ok (.if_icmp .ge 7, 3) := by decide +kernel
theorem dX4_has_12 : decode cX4_has 12 = .ok (.iconst 1, 1) := by decide +kernel
theorem dX4_has_13 : decode cX4_has 13 = .ok (.goto 4, 3) := by decide +kernel
theorem dX4_has_16 : decode cX4_has 16 = .ok (.iconst 0, 1) := by decide +kernel
theorem dX4_has_17 : decode cX4_has 17 = .ok (.ireturn, 1) := by decide +kernel
theorem dX4_hasRow_0 : decode cX4_hasRow 0 = .ok (.iload_n 1, 1) := by decide +kernel
theorem dX4_hasRow_1 : decode cX4_hasRow 1 = .ok (.ifCond .lt 29, 3) := by decide +kernel
theorem dX4_hasRow_4 : decode cX4_hasRow 4 = .ok (.iload_n 2, 1) := by decide +kernel
theorem dX4_hasRow_5 : decode cX4_hasRow 5 = .ok (.ifCond .lt 25, 3) := by decide +kernel
theorem dX4_hasRow_8 : decode cX4_hasRow 8 = .ok (.iload_n 1, 1) := by decide +kernel
theorem dX4_hasRow_9 : decode cX4_hasRow 9 = .ok (.aload_n 0, 1) := by decide +kernel
theorem dX4_hasRow_10 : decode cX4_hasRow 10 = .ok (.getfield 15, 3) := by decide +kernel
theorem dX4_hasRow_13 : decode cX4_hasRow 13 = .ok (.if_icmp .gt 17, 3) := by decide +kernel
theorem dX4_hasRow_16 : decode cX4_hasRow 16 = .ok (.iload_n 2, 1) := by decide +kernel
theorem dX4_hasRow_17 : decode cX4_hasRow 17 = .ok (.aload_n 0, 1) := by decide +kernel
theorem dX4_hasRow_18 : decode cX4_hasRow 18 = .ok (.getfield 15, 3) := by decide +kernel
theorem dX4_hasRow_21 : decode cX4_hasRow 21 = .ok (.iload_n 1, 1) := by decide +kernel
theorem dX4_hasRow_22 : decode cX4_hasRow 22 = .ok (.isub, 1) := by decide +kernel
theorem dX4_hasRow_23 : decode cX4_hasRow 23 = .ok (.if_icmp .gt 7, 3) := by decide +kernel
theorem dX4_hasRow_26 : decode cX4_hasRow 26 = .ok (.iconst 1, 1) := by decide +kernel
theorem dX4_hasRow_27 : decode cX4_hasRow 27 = .ok (.goto 4, 3) := by decide +kernel
theorem dX4_hasRow_30 : decode cX4_hasRow 30 = .ok (.iconst 0, 1) := by decide +kernel
theorem dX4_hasRow_31 : decode cX4_hasRow 31 = .ok (.ireturn, 1) := by decide +kernel
theorem dX4_isNumber_0 : decode cX4_isNumber 0 = .ok (.aload_n 0, 1) := by decide +kernel
theorem dX4_isNumber_1 : decode cX4_isNumber 1 = .ok (.iload_n 1, 1) := by decide +kernel
theorem dX4_isNumber_2 : decode cX4_isNumber 2 = .ok (.invokevirtual 22, 3) := by decide +kernel
theorem dX4_isNumber_5 : decode cX4_isNumber 5 = .ok (.ifCond .eq 18, 3) := by decide +kernel
theorem dX4_isNumber_8 : decode cX4_isNumber 8 = .ok (.aload_n 0, 1) := by decide +kernel
theorem dX4_isNumber_9 : decode cX4_isNumber 9 = .ok (.getfield 18, 3) := by decide +kernel
theorem dX4_isNumber_12 : decode cX4_isNumber 12 = .ok (.iload_n 1, 1) := by decide +kernel
theorem dX4_isNumber_13 : decode cX4_isNumber 13 = .ok (.iaload, 1) := by decide +kernel
theorem dX4_isNumber_14 : decode cX4_isNumber 14 = .ok (.ldc 26, 2) := by decide +kernel
theorem dX4_isNumber_16 : decode cX4_isNumber 16 = .ok (.if_icmp .eq 7, 3) := by decide +kernel
theorem dX4_isNumber_19 : decode cX4_isNumber 19 = .ok (.iconst 1, 1) := by decide +kernel
theorem dX4_isNumber_20 : decode cX4_isNumber 20 = .ok (.goto 4, 3) := by decide +kernel
theorem dX4_isNumber_23 : decode cX4_isNumber 23 = .ok (.iconst 0, 1) := by decide +kernel
theorem dX4_isNumber_24 : decode cX4_isNumber 24 = .ok (.ireturn, 1) := by decide +kernel
theorem dX4_become_0 : decode cX4_become 0 = .ok (.aload_n 0, 1) := by decide +kernel
theorem dX4_become_1 : decode cX4_become 1 = .ok (.iload_n 1, 1) := by decide +kernel
theorem dX4_become_2 : decode cX4_become 2 = .ok (.putfield 11, 3) := by decide +kernel
theorem dX4_become_5 : decode cX4_become 5 = .ok (.aload_n 0, 1) := by decide +kernel
theorem dX4_become_6 : decode cX4_become 6 = .ok (.iload_n 2, 1) := by decide +kernel
theorem dX4_become_7 : decode cX4_become 7 = .ok (.putfield 15, 3) := by decide +kernel
theorem dX4_become_10 : decode cX4_become 10 = .ok (.aload_n 0, 1) := by decide +kernel
theorem dX4_become_11 : decode cX4_become 11 = .ok (.getfield 18, 3) := by decide +kernel
theorem dX4_become_14 : decode cX4_become 14 = .ok (.iconst 0, 1) := by decide +kernel
theorem dX4_become_15 : decode cX4_become 15 = .ok (.invokestatic 27, 3) := by decide +kernel
theorem dX4_become_18 : decode cX4_become 18 = .ok (.return_, 1) := by decide +kernel
theorem dX4_becomeAs_0 : decode cX4_becomeAs 0 = .ok (.aload_n 0, 1) := by decide +kernel
theorem dX4_becomeAs_1 : decode cX4_becomeAs 1 = .ok (.aload_n 1, 1) := by decide +kernel
theorem dX4_becomeAs_2 : decode cX4_becomeAs 2 = .ok (.getfield 11, 3) := by decide +kernel
theorem dX4_becomeAs_5 : decode cX4_becomeAs 5 = .ok (.putfield 11, 3) := by decide +kernel
theorem dX4_becomeAs_8 : decode cX4_becomeAs 8 = .ok (.aload_n 0, 1) := by decide +kernel
theorem dX4_becomeAs_9 : decode cX4_becomeAs 9 = .ok (.aload_n 1, 1) := by decide +kernel
theorem dX4_becomeAs_10 : decode cX4_becomeAs 10 = .ok (.getfield 15, 3) := by decide +kernel
theorem dX4_becomeAs_13 : decode cX4_becomeAs 13 = .ok (.putfield 15, 3) := by decide +kernel
theorem dX4_becomeAs_16 : decode cX4_becomeAs 16 = .ok (.aload_n 1, 1) := by decide +kernel
theorem dX4_becomeAs_17 : decode cX4_becomeAs 17 = .ok (.getfield 18, 3) := by decide +kernel
theorem dX4_becomeAs_20 : decode cX4_becomeAs 20 = .ok (.iconst 0, 1) := by decide +kernel
theorem dX4_becomeAs_21 : decode cX4_becomeAs 21 = .ok (.aload_n 0, 1) := by decide +kernel
theorem dX4_becomeAs_22 : decode cX4_becomeAs 22 = .ok (.getfield 18, 3) := by decide +kernel
theorem dX4_becomeAs_25 : decode cX4_becomeAs 25 = .ok (.iconst 0, 1) := by decide +kernel
theorem dX4_becomeAs_26 : decode cX4_becomeAs 26 = .ok (.bipush 24, 2) := by decide +kernel
theorem dX4_becomeAs_28 : decode cX4_becomeAs 28 = .ok (.invokestatic 33, 3) := by decide +kernel
theorem dX4_becomeAs_31 : decode cX4_becomeAs 31 = .ok (.return_, 1) := by decide +kernel
theorem dX5_init_0 : decode cX5_init 0 = .ok (.aload_n 0, 1) := by decide +kernel
theorem dX5_init_1 : decode cX5_init 1 = .ok (.invokespecial 3, 3) := by decide +kernel
theorem dX5_init_4 : decode cX5_init 4 = .ok (.aload_n 0, 1) := by decide +kernel
theorem dX5_init_5 : decode cX5_init 5 = .ok (.iconst 0, 1) := by decide +kernel
theorem dX5_init_6 : decode cX5_init 6 = .ok (.putfield 9, 3) := by decide +kernel
theorem dX5_init_9 : decode cX5_init 9 = .ok (.aload_n 0, 1) := by decide +kernel
theorem dX5_init_10 : decode cX5_init 10 = .ok (.iconst 0, 1) := by decide +kernel
theorem dX5_init_11 : decode cX5_init 11 = .ok (.putfield 15, 3) := by decide +kernel
theorem dX5_init_14 : decode cX5_init 14 = .ok (.aload_n 0, 1) := by decide +kernel
theorem dX5_init_15 : decode cX5_init 15 = .ok (.iconst 0, 1) := by decide +kernel
theorem dX5_init_16 : decode cX5_init 16 = .ok (.putfield 18, 3) := by decide +kernel
theorem dX5_init_19 : decode cX5_init 19 = .ok (.aload_n 0, 1) := by decide +kernel
theorem dX5_init_20 : decode cX5_init 20 = .ok (.iconst 0, 1) := by decide +kernel
theorem dX5_init_21 : decode cX5_init 21 = .ok (.putfield 21, 3) := by decide +kernel
theorem dX5_init_24 : decode cX5_init 24 = .ok (.aload_n 0, 1) := by decide +kernel
theorem dX5_init_25 : decode cX5_init 25 = .ok (.new 24, 3) := by decide +kernel
theorem dX5_init_28 : decode cX5_init 28 = .ok (.dup, 1) := by decide +kernel
theorem dX5_init_29 : decode cX5_init 29 = .ok (.invokespecial 26, 3) := by decide +kernel
theorem dX5_init_32 : decode cX5_init 32 = .ok (.putfield 27, 3) := by decide +kernel
theorem dX5_init_35 : decode cX5_init 35 = .ok (.return_, 1) := by decide +kernel
theorem dX6_init_0 : decode cX6_init 0 = .ok (.aload_n 0, 1) := by decide +kernel
theorem dX6_init_1 : decode cX6_init 1 = .ok (.invokespecial 1, 3) := by decide +kernel
theorem dX6_init_4 : decode cX6_init 4 = .ok (.aload_n 0, 1) := by decide +kernel
theorem dX6_init_5 : decode cX6_init 5 = .ok (.bipush 96, 2) := by decide +kernel
theorem dX6_init_7 : decode cX6_init 7 = .ok (.newarray .int, 2) := by decide +kernel
theorem dX6_init_9 : decode cX6_init 9 = .ok (.putfield 9, 3) := by decide +kernel
theorem dX6_init_12 : decode cX6_init 12 = .ok (.aload_n 0, 1) := by decide +kernel
theorem dX6_init_13 : decode cX6_init 13 = .ok (.iconst 0, 1) := by decide +kernel
theorem dX6_init_14 : decode cX6_init 14 = .ok (.putfield 13, 3) := by decide +kernel
theorem dX6_init_17 : decode cX6_init 17 = .ok (.aload_n 0, 1) := by decide +kernel
theorem dX6_init_18 : decode cX6_init 18 = .ok (.iconst 3, 1) := by decide +kernel
theorem dX6_init_19 : decode cX6_init 19 = .ok (.putfield 17, 3) := by decide +kernel
theorem dX6_init_22 : decode cX6_init 22 = .ok (.aload_n 0, 1) := by decide +kernel
theorem dX6_init_23 : decode cX6_init 23 = .ok (.iconst 0, 1) := by decide +kernel
theorem dX6_init_24 : decode cX6_init 24 = .ok (.putfield 20, 3) := by decide +kernel
theorem dX6_init_27 : decode cX6_init 27 = .ok (.aload_n 0, 1) := by decide +kernel
theorem dX6_init_28 : decode cX6_init 28 = .ok (.iconst 0, 1) := by decide +kernel
theorem dX6_init_29 : decode cX6_init 29 = .ok (.putfield 23, 3) := by decide +kernel
theorem dX6_init_32 : decode cX6_init 32 = .ok (.return_, 1) := by decide +kernel
theorem dX6_hasRoom_0 : decode cX6_hasRoom 0 = .ok (.aload_n 0, 1) := by decide +kernel
theorem dX6_hasRoom_1 : decode cX6_hasRoom 1 = .ok (.getfield 13, 3) := by decide +kernel
theorem dX6_hasRoom_4 : decode cX6_hasRoom 4 = .ok (.bipush 12, 2) := by decide +kernel
theorem dX6_hasRoom_6 : decode cX6_hasRoom 6 = .ok (.iadd, 1) := by decide +kernel
theorem dX6_hasRoom_7 : decode cX6_hasRoom 7 = .ok (.bipush 96, 2) := by decide +kernel
theorem dX6_hasRoom_9 : decode cX6_hasRoom 9 = .ok (.if_icmp .gt 7, 3) := by decide +kernel
theorem dX6_hasRoom_12 : decode cX6_hasRoom 12 = .ok (.iconst 1, 1) := by decide +kernel
theorem dX6_hasRoom_13 : decode cX6_hasRoom 13 = .ok (.goto 4, 3) := by decide +kernel
theorem dX6_hasRoom_16 : decode cX6_hasRoom 16 = .ok (.iconst 0, 1) := by decide +kernel
theorem dX6_hasRoom_17 : decode cX6_hasRoom 17 = .ok (.ireturn, 1) := by decide +kernel
theorem dX6_append_0 : decode cX6_append 0 = .ok (.bipush 24, 2) := by decide +kernel
theorem dX6_append_2 : decode cX6_append 2 = .ok (.istore_n 2, 1) := by decide +kernel
theorem dX6_append_3 : decode cX6_append 3 = .ok (.iload_n 2, 1) := by decide +kernel
theorem dX6_append_4 : decode cX6_append 4 = .ok (.ifCond .lt 44, 3) := by decide +kernel
theorem dX6_append_7 : decode cX6_append 7 = .ok (.aload_n 0, 1) := by decide +kernel
theorem dX6_append_8 : decode cX6_append 8 = .ok (.getfield 13, 3) := by decide +kernel
theorem dX6_append_11 : decode cX6_append 11 = .ok (.bipush 96, 2) := by decide +kernel
theorem dX6_append_13 : decode cX6_append 13 = .ok (.if_icmp .ge 35, 3) := by decide +kernel
theorem dX6_append_16 : decode cX6_append 16 = .ok (.aload_n 0, 1) := by decide +kernel
theorem dX6_append_17 : decode cX6_append 17 = .ok (.getfield 9, 3) := by decide +kernel
theorem dX6_append_20 : decode cX6_append 20 = .ok (.aload_n 0, 1) := by decide +kernel
theorem dX6_append_21 : decode cX6_append 21 = .ok (.getfield 13, 3) := by decide +kernel
theorem dX6_append_24 : decode cX6_append 24 = .ok (.iload_n 1, 1) := by decide +kernel
theorem dX6_append_25 : decode cX6_append 25 = .ok (.iload_n 2, 1) := by decide +kernel
theorem dX6_append_26 : decode cX6_append 26 = .ok (.iushr, 1) := by decide +kernel
theorem dX6_append_27 : decode cX6_append 27 = .ok (.sipush 255, 3) := by decide +kernel
theorem dX6_append_30 : decode cX6_append 30 = .ok (.iand, 1) := by decide +kernel
theorem dX6_append_31 : decode cX6_append 31 = .ok (.iastore, 1) := by decide +kernel
theorem dX6_append_32 : decode cX6_append 32 = .ok (.aload_n 0, 1) := by decide +kernel
theorem dX6_append_33 : decode cX6_append 33 = .ok (.dup, 1) := by decide +kernel
theorem dX6_append_34 : decode cX6_append 34 = .ok (.getfield 13, 3) := by decide +kernel
theorem dX6_append_37 : decode cX6_append 37 = .ok (.iconst 1, 1) := by decide +kernel
theorem dX6_append_38 : decode cX6_append 38 = .ok (.iadd, 1) := by decide +kernel
theorem dX6_append_39 : decode cX6_append 39 = .ok (.putfield 13, 3) := by decide +kernel
theorem dX6_append_42 : decode cX6_append 42 = .ok (.iinc 2 (-8), 3) := by decide +kernel
theorem dX6_append_45 : decode cX6_append 45 = .ok (.goto (-42), 3) := by decide +kernel
theorem dX6_append_48 : decode cX6_append 48 = .ok (.return_, 1) := by decide +kernel
theorem dX6_rewind_0 : decode cX6_rewind 0 = .ok (.aload_n 0, 1) := by decide +kernel
theorem dX6_rewind_1 : decode cX6_rewind 1 = .ok (.iconst 3, 1) := by decide +kernel
theorem dX6_rewind_2 : decode cX6_rewind 2 = .ok (.putfield 17, 3) := by decide +kernel
theorem dX6_rewind_5 : decode cX6_rewind 5 = .ok (.aload_n 0, 1) := by decide +kernel
theorem dX6_rewind_6 : decode cX6_rewind 6 = .ok (.iconst 0, 1) := by decide +kernel
theorem dX6_rewind_7 : decode cX6_rewind 7 = .ok (.putfield 23, 3) := by decide +kernel
theorem dX6_rewind_10 : decode cX6_rewind 10 = .ok (.aload_n 0, 1) := by decide +kernel
theorem dX6_rewind_11 : decode cX6_rewind 11 = .ok (.invokevirtual 26, 3) := by decide +kernel
theorem dX6_rewind_14 : decode cX6_rewind 14 = .ok (.return_, 1) := by decide +kernel
theorem dX6_next_0 : decode cX6_next 0 = .ok (.aload_n 0, 1) := by decide +kernel
theorem dX6_next_1 : decode cX6_next 1 = .ok (.getfield 17, 3) := by decide +kernel
theorem dX6_next_4 : decode cX6_next 4 = .ok (.iconst 1, 1) := by decide +kernel
theorem dX6_next_5 : decode cX6_next 5 = .ok (.if_icmp .eq 11, 3) := by decide +kernel
theorem dX6_next_8 : decode cX6_next 8 = .ok (.aload_n 0, 1) := by decide +kernel
theorem dX6_next_9 : decode cX6_next 9 = .ok (.getfield 17, 3) := by decide +kernel
theorem dX6_next_12 : decode cX6_next 12 = .ok (.iconst 2, 1) := by decide +kernel
theorem dX6_next_13 : decode cX6_next 13 = .ok (.if_icmp .ne 7, 3) := by decide +kernel
theorem dX6_next_16 : decode cX6_next 16 = .ok (.iconst 1, 1) := by decide +kernel
theorem dX6_next_17 : decode cX6_next 17 = .ok (.goto 4, 3) := by decide +kernel
theorem dX6_next_20 : decode cX6_next 20 = .ok (.iconst 0, 1) := by decide +kernel
theorem dX6_next_21 : decode cX6_next 21 = .ok (.istore_n 1, 1) := by decide +kernel
theorem dX6_next_22 : decode cX6_next 22 = .ok (.aload_n 0, 1) := by decide +kernel
theorem dX6_next_23 : decode cX6_next 23 = .ok (.getfield 23, 3) := by decide +kernel
theorem dX6_next_26 : decode cX6_next 26 = .ok (.istore_n 2, 1) := by decide +kernel
theorem dX6_next_27 : decode cX6_next 27 = .ok (.aload_n 0, 1) := by decide +kernel
theorem dX6_next_28 : decode cX6_next 28 = .ok (.iload_n 2, 1) := by decide +kernel
theorem dX6_next_29 : decode cX6_next 29 = .ok (.putfield 20, 3) := by decide +kernel
theorem dX6_next_32 : decode cX6_next 32 = .ok (.aload_n 0, 1) := by decide +kernel
theorem dX6_next_33 : decode cX6_next 33 = .ok (.getfield 20, 3) := by decide +kernel
theorem dX6_next_36 : decode cX6_next 36 = .ok (.aload_n 0, 1) := by decide +kernel
theorem dX6_next_37 : decode cX6_next 37 = .ok (.getfield 13, 3) := by decide +kernel
theorem dX6_next_40 : decode cX6_next 40 = .ok (.if_icmp .ge 30, 3) := by decide +kernel
theorem dX6_next_43 : decode cX6_next 43 = .ok (.aload_n 0, 1) := by decide +kernel
theorem dX6_next_44 : decode cX6_next 44 = .ok (.getfield 9, 3) := by decide +kernel
theorem dX6_next_47 : decode cX6_next 47 = .ok (.aload_n 0, 1) := by decide +kernel
theorem dX6_next_48 : decode cX6_next 48 = .ok (.getfield 20, 3) := by decide +kernel
theorem dX6_next_51 : decode cX6_next 51 = .ok (.iaload, 1) := by decide +kernel
theorem dX6_next_52 : decode cX6_next 52 = .ok (.bipush 32, 2) := by decide +kernel
theorem dX6_next_54 : decode cX6_next 54 = .ok (.if_icmp .ne 16, 3) := by decide +kernel
theorem dX6_next_57 : decode cX6_next 57 = .ok (.aload_n 0, 1) := by decide +kernel
theorem dX6_next_58 : decode cX6_next 58 = .ok (.dup, 1) := by decide +kernel
theorem dX6_next_59 : decode cX6_next 59 = .ok (.getfield 20, 3) := by decide +kernel
theorem dX6_next_62 : decode cX6_next 62 = .ok (.iconst 1, 1) := by decide +kernel
theorem dX6_next_63 : decode cX6_next 63 = .ok (.iadd, 1) := by decide +kernel
theorem dX6_next_64 : decode cX6_next 64 = .ok (.putfield 20, 3) := by decide +kernel
theorem dX6_next_67 : decode cX6_next 67 = .ok (.goto (-35), 3) := by decide +kernel
theorem dX6_next_70 : decode cX6_next 70 = .ok (.aload_n 0, 1) := by decide +kernel
theorem dX6_next_71 : decode cX6_next 71 = .ok (.aload_n 0, 1) := by decide +kernel
theorem dX6_next_72 : decode cX6_next 72 = .ok (.getfield 20, 3) := by decide +kernel
theorem dX6_next_75 : decode cX6_next 75 = .ok (.putfield 23, 3) := by decide +kernel
theorem dX6_next_78 : decode cX6_next 78 = .ok (.aload_n 0, 1) := by decide +kernel
theorem dX6_next_79 : decode cX6_next 79 = .ok (.getfield 20, 3) := by decide +kernel
theorem dX6_next_82 : decode cX6_next 82 = .ok (.aload_n 0, 1) := by decide +kernel
theorem dX6_next_83 : decode cX6_next 83 = .ok (.getfield 13, 3) := by decide +kernel
theorem dX6_next_86 : decode cX6_next 86 = .ok (.if_icmp .ne 9, 3) := by decide +kernel
theorem dX6_next_89 : decode cX6_next 89 = .ok (.aload_n 0, 1) := by decide +kernel
theorem dX6_next_90 : decode cX6_next 90 = .ok (.iconst 0, 1) := by decide +kernel
theorem dX6_next_91 : decode cX6_next 91 = .ok (.putfield 17, 3) := by decide +kernel
theorem dX6_next_94 : decode cX6_next 94 = .ok (.return_, 1) := by decide +kernel
theorem dX6_next_95 : decode cX6_next 95 = .ok (.aload_n 0, 1) := by decide +kernel
theorem dX6_next_96 : decode cX6_next 96 = .ok (.aload_n 0, 1) := by decide +kernel
theorem dX6_next_97 : decode cX6_next 97 = .ok (.getfield 9, 3) := by decide +kernel
theorem dX6_next_100 : decode cX6_next 100 = .ok (.aload_n 0, 1) := by decide +kernel
theorem dX6_next_101 : decode cX6_next 101 = .ok (.getfield 20, 3) := by decide +kernel
theorem dX6_next_104 : decode cX6_next 104 = .ok (.iaload, 1) := by decide +kernel
theorem dX6_next_105 : decode cX6_next 105 = .ok (.invokestatic 29, 3) := by decide +kernel
theorem dX6_next_108 : decode cX6_next 108 = .ok (.putfield 17, 3) := by decide +kernel
theorem dX6_next_111 : decode cX6_next 111 = .ok (.aload_n 0, 1) := by decide +kernel
theorem dX6_next_112 : decode cX6_next 112 = .ok (.dup, 1) := by decide +kernel
theorem dX6_next_113 : decode cX6_next 113 = .ok (.getfield 23, 3) := by decide +kernel
theorem dX6_next_116 : decode cX6_next 116 = .ok (.iconst 1, 1) := by decide +kernel
theorem dX6_next_117 : decode cX6_next 117 = .ok (.iadd, 1) := by decide +kernel
theorem dX6_next_118 : decode cX6_next 118 = .ok (.putfield 23, 3) := by decide +kernel
theorem dX6_next_121 : decode cX6_next 121 = .ok (.aload_n 0, 1) := by decide +kernel
theorem dX6_next_122 : decode cX6_next 122 = .ok (.getfield 17, 3) := by decide +kernel
theorem dX6_next_125 : decode cX6_next 125 = .ok (.iconst 3, 1) := by decide +kernel
theorem dX6_next_126 : decode cX6_next 126 = .ok (.if_icmp .eq 46, 3) := by decide +kernel
theorem dX6_next_129 : decode cX6_next 129 = .ok (.aload_n 0, 1) := by decide +kernel
theorem dX6_next_130 : decode cX6_next 130 = .ok (.getfield 23, 3) := by decide +kernel
theorem dX6_next_133 : decode cX6_next 133 = .ok (.aload_n 0, 1) := by decide +kernel
theorem dX6_next_134 : decode cX6_next 134 = .ok (.getfield 13, 3) := by decide +kernel
theorem dX6_next_137 : decode cX6_next 137 = .ok (.if_icmp .ge 35, 3) := by decide +kernel
theorem dX6_next_140 : decode cX6_next 140 = .ok (.aload_n 0, 1) := by decide +kernel
theorem dX6_next_141 : decode cX6_next 141 = .ok (.getfield 9, 3) := by decide +kernel
theorem dX6_next_144 : decode cX6_next 144 = .ok (.aload_n 0, 1) := by decide +kernel
theorem dX6_next_145 : decode cX6_next 145 = .ok (.getfield 23, 3) := by decide +kernel
theorem dX6_next_148 : decode cX6_next 148 = .ok (.iaload, 1) := by decide +kernel
theorem dX6_next_149 : decode cX6_next 149 = .ok (.invokestatic 29, 3) := by decide +kernel
theorem dX6_next_152 : decode cX6_next 152 = .ok (.aload_n 0, 1) := by decide +kernel
theorem dX6_next_153 : decode cX6_next 153 = .ok (.getfield 17, 3) := by decide +kernel
theorem dX6_next_156 : decode cX6_next 156 = .ok (.if_icmp .ne 16, 3) := by decide +kernel
theorem dX6_next_159 : decode cX6_next 159 = .ok (.aload_n 0, 1) := by decide +kernel
theorem dX6_next_160 : decode cX6_next 160 = .ok (.dup, 1) := by decide +kernel
theorem dX6_next_161 : decode cX6_next 161 = .ok (.getfield 23, 3) := by decide +kernel
theorem dX6_next_164 : decode cX6_next 164 = .ok (.iconst 1, 1) := by decide +kernel
theorem dX6_next_165 : decode cX6_next 165 = .ok (.iadd, 1) := by decide +kernel
theorem dX6_next_166 : decode cX6_next 166 = .ok (.putfield 23, 3) := by decide +kernel
theorem dX6_next_169 : decode cX6_next 169 = .ok (.goto (-48), 3) := by decide +kernel
theorem dX6_next_172 : decode cX6_next 172 = .ok (.iload_n 1, 1) := by decide +kernel
theorem dX6_next_173 : decode cX6_next 173 = .ok (.ifCond .eq 24, 3) := by decide +kernel
theorem dX6_next_176 : decode cX6_next 176 = .ok (.aload_n 0, 1) := by decide +kernel
theorem dX6_next_177 : decode cX6_next 177 = .ok (.getfield 17, 3) := by decide +kernel
theorem dX6_next_180 : decode cX6_next 180 = .ok (.iconst 3, 1) := by decide +kernel
theorem dX6_next_181 : decode cX6_next 181 = .ok (.if_icmp .eq 16, 3) := by decide +kernel
theorem dX6_next_184 : decode cX6_next 184 = .ok (.aload_n 0, 1) := by decide +kernel
theorem dX6_next_185 : decode cX6_next 185 = .ok (.getfield 20, 3) := by decide +kernel
theorem dX6_next_188 : decode cX6_next 188 = .ok (.iload_n 2, 1) := by decide +kernel
theorem dX6_next_189 : decode cX6_next 189 = .ok (.if_icmp .ne 8, 3) := by decide +kernel
theorem dX6_next_192 : decode cX6_next 192 = .ok (.aload_n 0, 1) := by decide +kernel
theorem dX6_next_193 : decode cX6_next 193 = .ok (.iconst 4, 1) := by decide +kernel
theorem dX6_next_194 : decode cX6_next 194 = .ok (.putfield 17, 3) := by decide +kernel
theorem dX6_next_197 : decode cX6_next 197 = .ok (.return_, 1) := by decide +kernel
theorem dX6_sortOf_0 : decode cX6_sortOf 0 = .ok (.iload_n 0, 1) := by decide +kernel
theorem dX6_sortOf_1 : decode cX6_sortOf 1 = .ok (.bipush 97, 2) := by decide +kernel
theorem dX6_sortOf_3 : decode cX6_sortOf 3 = .ok (.if_icmp .lt 11, 3) := by decide +kernel
theorem dX6_sortOf_6 : decode cX6_sortOf 6 = .ok (.iload_n 0, 1) := by decide +kernel
theorem dX6_sortOf_7 : decode cX6_sortOf 7 = .ok (.bipush 122, 2) := by decide +kernel
theorem dX6_sortOf_9 : decode cX6_sortOf 9 = .ok (.if_icmp .gt 5, 3) := by decide +kernel
theorem dX6_sortOf_12 : decode cX6_sortOf 12 = .ok (.iconst 1, 1) := by decide +kernel
theorem dX6_sortOf_13 : decode cX6_sortOf 13 = .ok (.ireturn, 1) := by decide +kernel
theorem dX6_sortOf_14 : decode cX6_sortOf 14 = .ok (.iload_n 0, 1) := by decide +kernel
theorem dX6_sortOf_15 : decode cX6_sortOf 15 = .ok (.bipush 48, 2) := by decide +kernel
theorem dX6_sortOf_17 : decode cX6_sortOf 17 = .ok (.if_icmp .lt 13, 3) := by decide +kernel
theorem dX6_sortOf_20 : decode cX6_sortOf 20 = .ok (.iload_n 0, 1) := by decide +kernel
theorem dX6_sortOf_21 : decode cX6_sortOf 21 = .ok (.bipush 57, 2) := by decide +kernel
theorem dX6_sortOf_23 : decode cX6_sortOf 23 = .ok (.if_icmp .gt 7, 3) := by decide +kernel
theorem dX6_sortOf_26 : decode cX6_sortOf 26 = .ok (.iconst 2, 1) := by decide +kernel
theorem dX6_sortOf_27 : decode cX6_sortOf 27 = .ok (.goto 4, 3) := by decide +kernel
theorem dX6_sortOf_30 : decode cX6_sortOf 30 = .ok (.iconst 3, 1) := by decide +kernel
theorem dX6_sortOf_31 : decode cX6_sortOf 31 = .ok (.ireturn, 1) := by decide +kernel
theorem dX6_sign_0 : decode cX6_sign 0 = .ok (.aload_n 0, 1) := by decide +kernel
theorem dX6_sign_1 : decode cX6_sign 1 = .ok (.getfield 17, 3) := by decide +kernel
theorem dX6_sign_4 : decode cX6_sign 4 = .ok (.iconst 3, 1) := by decide +kernel
theorem dX6_sign_5 : decode cX6_sign 5 = .ok (.if_icmp .ne 15, 3) := by decide +kernel
theorem dX6_sign_8 : decode cX6_sign 8 = .ok (.aload_n 0, 1) := by decide +kernel
theorem dX6_sign_9 : decode cX6_sign 9 = .ok (.getfield 9, 3) := by decide +kernel
theorem dX6_sign_12 : decode cX6_sign 12 = .ok (.aload_n 0, 1) := by decide +kernel
theorem dX6_sign_13 : decode cX6_sign 13 = .ok (.getfield 20, 3) := by decide +kernel
theorem dX6_sign_16 : decode cX6_sign 16 = .ok (.iaload, 1) := by decide +kernel
theorem dX6_sign_17 : decode cX6_sign 17 = .ok (.goto 4, 3) := by decide +kernel
theorem dX6_sign_20 : decode cX6_sign 20 = .ok (.iconst 0, 1) := by decide +kernel
theorem dX6_sign_21 : decode cX6_sign 21 = .ok (.ireturn, 1) := by decide +kernel
theorem dX6_isWord_0 : decode cX6_isWord 0 = .ok (.aload_n 0, 1) := by decide +kernel
theorem dX6_isWord_1 : decode cX6_isWord 1 = .ok (.getfield 17, 3) := by decide +kernel
theorem dX6_isWord_4 : decode cX6_isWord 4 = .ok (.iconst 1, 1) := by decide +kernel
theorem dX6_isWord_5 : decode cX6_isWord 5 = .ok (.if_icmp .ne 19, 3) := by decide +kernel
theorem dX6_isWord_8 : decode cX6_isWord 8 = .ok (.aload_n 0, 1) := by decide +kernel
theorem dX6_isWord_9 : decode cX6_isWord 9 = .ok (.getfield 23, 3) := by decide +kernel
theorem dX6_isWord_12 : decode cX6_isWord 12 = .ok (.aload_n 0, 1) := by decide +kernel
theorem dX6_isWord_13 : decode cX6_isWord 13 = .ok (.getfield 20, 3) := by decide +kernel
theorem dX6_isWord_16 : decode cX6_isWord 16 = .ok (.isub, 1) := by decide +kernel
theorem dX6_isWord_17 : decode cX6_isWord 17 = .ok (.aload_n 1, 1) := by decide +kernel
theorem dX6_isWord_18 : decode cX6_isWord 18 = .ok (.invokevirtual 33, 3) := by decide +kernel
theorem dX6_isWord_21 : decode cX6_isWord 21 = .ok (.if_icmp .eq 5, 3) := by decide +kernel
theorem dX6_isWord_24 : decode cX6_isWord 24 = .ok (.iconst 0, 1) := by decide +kernel
theorem dX6_isWord_25 : decode cX6_isWord 25 = .ok (.ireturn, 1) := by decide +kernel
theorem dX6_isWord_26 : decode cX6_isWord 26 = .ok (.iconst 0, 1) := by decide +kernel
theorem dX6_isWord_27 : decode cX6_isWord 27 = .ok (.istore_n 2, 1) := by decide +kernel
theorem dX6_isWord_28 : decode cX6_isWord 28 = .ok (.iload_n 2, 1) := by decide +kernel
theorem dX6_isWord_29 : decode cX6_isWord 29 = .ok (.aload_n 1, 1) := by decide +kernel
theorem dX6_isWord_30 : decode cX6_isWord 30 = .ok (.invokevirtual 33, 3) := by decide +kernel
theorem dX6_isWord_33 : decode cX6_isWord 33 = .ok (.if_icmp .ge 30, 3) := by decide +kernel
theorem dX6_isWord_36 : decode cX6_isWord 36 = .ok (.aload_n 0, 1) := by decide +kernel
theorem dX6_isWord_37 : decode cX6_isWord 37 = .ok (.getfield 9, 3) := by decide +kernel
theorem dX6_isWord_40 : decode cX6_isWord 40 = .ok (.aload_n 0, 1) := by decide +kernel
theorem dX6_isWord_41 : decode cX6_isWord 41 = .ok (.getfield 20, 3) := by decide +kernel
theorem dX6_isWord_44 : decode cX6_isWord 44 = .ok (.iload_n 2, 1) := by decide +kernel
theorem dX6_isWord_45 : decode cX6_isWord 45 = .ok (.iadd, 1) := by decide +kernel
theorem dX6_isWord_46 : decode cX6_isWord 46 = .ok (.iaload, 1) := by decide +kernel
theorem dX6_isWord_47 : decode cX6_isWord 47 = .ok (.aload_n 1, 1) := by decide +kernel
theorem dX6_isWord_48 : decode cX6_isWord 48 = .ok (.iload_n 2, 1) := by decide +kernel
theorem dX6_isWord_49 : decode cX6_isWord 49 = .ok (.invokevirtual 38, 3) := by decide +kernel
theorem dX6_isWord_52 : decode cX6_isWord 52 = .ok (.if_icmp .eq 5, 3) := by decide +kernel
theorem dX6_isWord_55 : decode cX6_isWord 55 = .ok (.iconst 0, 1) := by decide +kernel
theorem dX6_isWord_56 : decode cX6_isWord 56 = .ok (.ireturn, 1) := by decide +kernel
theorem dX6_isWord_57 : decode cX6_isWord 57 = .ok (.iinc 2 1, 3) := by decide +kernel
theorem dX6_isWord_60 : decode cX6_isWord 60 = .ok (.goto (-32), 3) := by decide +kernel
theorem dX6_isWord_63 : decode cX6_isWord 63 = .ok (.iconst 1, 1) := by decide +kernel
theorem dX6_isWord_64 : decode cX6_isWord 64 = .ok (.ireturn, 1) := by decide +kernel
theorem dX6_number_0 : decode cX6_number 0 = .ok (.iconst 0, 1) := by decide +kernel
theorem dX6_number_1 : decode cX6_number 1 = .ok (.istore_n 1, 1) := by decide +kernel
theorem dX6_number_2 : decode cX6_number 2 = .ok (.aload_n 0, 1) := by decide +kernel
theorem dX6_number_3 : decode cX6_number 3 = .ok (.getfield 20, 3) := by decide +kernel
theorem dX6_number_6 : decode cX6_number 6 = .ok (.istore_n 2, 1) := by decide +kernel
theorem dX6_number_7 : decode cX6_number 7 = .ok (.iload_n 2, 1) := by decide +kernel
theorem dX6_number_8 : decode cX6_number 8 = .ok (.aload_n 0, 1) := by decide +kernel
theorem dX6_number_9 : decode cX6_number 9 = .ok (.getfield 23, 3) := by decide +kernel
theorem dX6_number_12 : decode cX6_number 12 = .ok (.if_icmp .ge 24, 3) := by decide +kernel
theorem dX6_number_15 : decode cX6_number 15 = .ok (.bipush 10, 2) := by decide +kernel
theorem dX6_number_17 : decode cX6_number 17 = .ok (.iload_n 1, 1) := by decide +kernel
theorem dX6_number_18 : decode cX6_number 18 = .ok (.imul, 1) := by decide +kernel
theorem dX6_number_19 : decode cX6_number 19 = .ok (.aload_n 0, 1) := by decide +kernel
theorem dX6_number_20 : decode cX6_number 20 = .ok (.getfield 9, 3) := by decide +kernel
theorem dX6_number_23 : decode cX6_number 23 = .ok (.iload_n 2, 1) := by decide +kernel
theorem dX6_number_24 : decode cX6_number 24 = .ok (.iaload, 1) := by decide +kernel
theorem dX6_number_25 : decode cX6_number 25 = .ok (.iadd, 1) := by decide +kernel
theorem dX6_number_26 : decode cX6_number 26 = .ok (.bipush 48, 2) := by decide +kernel
theorem dX6_number_28 : decode cX6_number 28 = .ok (.isub, 1) := by decide +kernel
theorem dX6_number_29 : decode cX6_number 29 = .ok (.istore_n 1, 1) := by decide +kernel
theorem dX6_number_30 : decode cX6_number 30 = .ok (.iinc 2 1, 3) := by decide +kernel
theorem dX6_number_33 : decode cX6_number 33 = .ok (.goto (-26), 3) := by decide +kernel
theorem dX6_number_36 : decode cX6_number 36 = .ok (.iload_n 1, 1) := by decide +kernel
theorem dX6_number_37 : decode cX6_number 37 = .ok (.ireturn, 1) := by decide +kernel
theorem dX7_init_0 : decode cX7_init 0 = .ok (.aload_n 0, 1) := by decide +kernel
theorem dX7_init_1 : decode cX7_init 1 = .ok (.invokespecial 1, 3) := by decide +kernel
theorem dX7_init_4 : decode cX7_init 4 = .ok (.aload_n 0, 1) := by decide +kernel
theorem dX7_init_5 : decode cX7_init 5 = .ok (.new 7, 3) := by decide +kernel
theorem dX7_init_8 : decode cX7_init 8 = .ok (.dup, 1) := by decide +kernel
theorem dX7_init_9 : decode cX7_init 9 = .ok (.invokespecial 9, 3) := by decide +kernel
theorem dX7_init_12 : decode cX7_init 12 = .ok (.putfield 10, 3) := by decide +kernel
theorem dX7_init_15 : decode cX7_init 15 = .ok (.aload_n 0, 1) := by decide +kernel
theorem dX7_init_16 : decode cX7_init 16 = .ok (.new 7, 3) := by decide +kernel
theorem dX7_init_19 : decode cX7_init 19 = .ok (.dup, 1) := by decide +kernel
theorem dX7_init_20 : decode cX7_init 20 = .ok (.invokespecial 9, 3) := by decide +kernel
theorem dX7_init_23 : decode cX7_init 23 = .ok (.putfield 16, 3) := by decide +kernel
theorem dX7_init_26 : decode cX7_init 26 = .ok (.aload_n 0, 1) := by decide +kernel
theorem dX7_init_27 : decode cX7_init 27 = .ok (.new 7, 3) := by decide +kernel
theorem dX7_init_30 : decode cX7_init 30 = .ok (.dup, 1) := by decide +kernel
theorem dX7_init_31 : decode cX7_init 31 = .ok (.invokespecial 9, 3) := by decide +kernel
theorem dX7_init_34 : decode cX7_init 34 = .ok (.putfield 19, 3) := by decide +kernel
theorem dX7_init_37 : decode cX7_init 37 = .ok (.aload_n 0, 1) := by decide +kernel
theorem dX7_init_38 : decode cX7_init 38 = .ok (.new 7, 3) := by decide +kernel
theorem dX7_init_41 : decode cX7_init 41 = .ok (.dup, 1) := by decide +kernel
theorem dX7_init_42 : decode cX7_init 42 = .ok (.invokespecial 9, 3) := by decide +kernel
theorem dX7_init_45 : decode cX7_init 45 = .ok (.putfield 22, 3) := by decide +kernel
theorem dX7_init_48 : decode cX7_init 48 = .ok (.aload_n 0, 1) := by decide +kernel
theorem dX7_init_49 : decode cX7_init 49 = .ok (.iconst 0, 1) := by decide +kernel
theorem dX7_init_50 : decode cX7_init 50 = .ok (.putfield 25, 3) := by decide +kernel
theorem dX7_init_53 : decode cX7_init 53 = .ok (.aload_n 0, 1) := by decide +kernel
theorem dX7_init_54 : decode cX7_init 54 = .ok (.bipush 14, 2) := by decide +kernel
theorem dX7_init_56 : decode cX7_init 56 = .ok (.anewarray 29, 3) := by decide +kernel
theorem dX7_init_59 : decode cX7_init 59 = .ok (.putfield 31, 3) := by decide +kernel
theorem dX7_init_62 : decode cX7_init 62 = .ok (.aload_n 0, 1) := by decide +kernel
theorem dX7_init_63 : decode cX7_init 63 = .ok (.iconst 0, 1) := by decide +kernel
theorem dX7_init_64 : decode cX7_init 64 = .ok (.putfield 35, 3) := by decide +kernel
theorem dX7_init_67 : decode cX7_init 67 = .ok (.aload_n 0, 1) := by decide +kernel
theorem dX7_init_68 : decode cX7_init 68 = .ok (.iconst 0, 1) := by decide +kernel
theorem dX7_init_69 : decode cX7_init 69 = .ok (.putfield 39, 3) := by decide +kernel
theorem dX7_init_72 : decode cX7_init 72 = .ok (.aload_n 0, 1) := by decide +kernel
theorem dX7_init_73 : decode cX7_init 73 = .ok (.new 42, 3) := by decide +kernel
theorem dX7_init_76 : decode cX7_init 76 = .ok (.dup, 1) := by decide +kernel
theorem dX7_init_77 : decode cX7_init 77 = .ok (.invokespecial 44, 3) := by decide +kernel
theorem dX7_init_80 : decode cX7_init 80 = .ok (.putfield 45, 3) := by decide +kernel
theorem dX7_init_83 : decode cX7_init 83 = .ok (.aload_n 0, 1) := by decide +kernel
theorem dX7_init_84 : decode cX7_init 84 = .ok (.new 49, 3) := by decide +kernel
theorem dX7_init_87 : decode cX7_init 87 = .ok (.dup, 1) := by decide +kernel
theorem dX7_init_88 : decode cX7_init 88 = .ok (.aload_n 0, 1) := by decide +kernel
theorem dX7_init_89 : decode cX7_init 89 = .ok (.getfield 45, 3) := by decide +kernel
theorem dX7_init_92 : decode cX7_init 92 = .ok (.invokespecial 51, 3) := by decide +kernel
theorem dX7_init_95 : decode cX7_init 95 = .ok (.putfield 54, 3) := by decide +kernel
theorem dX7_init_98 : decode cX7_init 98 = .ok (.aload_n 0, 1) := by decide +kernel
theorem dX7_init_99 : decode cX7_init 99 = .ok (.iconst 4, 1) := by decide +kernel
theorem dX7_init_100 : decode cX7_init 100 = .ok (.anewarray 58, 3) := by decide +kernel
theorem dX7_init_103 : decode cX7_init 103 = .ok (.putfield 60, 3) := by decide +kernel
theorem dX7_init_106 : decode cX7_init 106 = .ok (.aload_n 0, 1) := by decide +kernel
theorem dX7_init_107 : decode cX7_init 107 = .ok (.iconst 5, 1) := by decide +kernel
theorem dX7_init_108 : decode cX7_init 108 = .ok (.anewarray 64, 3) := by decide +kernel
theorem dX7_init_111 : decode cX7_init 111 = .ok (.putfield 66, 3) := by decide +kernel
theorem dX7_init_114 : decode cX7_init 114 = .ok (.aload_n 0, 1) := by decide +kernel
theorem dX7_init_115 : decode cX7_init 115 = .ok (.bipush 60, 2) := by decide +kernel
theorem dX7_init_117 : decode cX7_init 117 = .ok (.newarray .int, 2) := by decide +kernel
theorem dX7_init_119 : decode cX7_init 119 = .ok (.putfield 70, 3) := by decide +kernel
theorem dX7_init_122 : decode cX7_init 122 = .ok (.aload_n 0, 1) := by decide +kernel
theorem dX7_init_123 : decode cX7_init 123 = .ok (.iconst 0, 1) := by decide +kernel
theorem dX7_init_124 : decode cX7_init 124 = .ok (.putfield 74, 3) := by decide +kernel
theorem dX7_init_127 : decode cX7_init 127 = .ok (.iconst 0, 1) := by decide +kernel
theorem dX7_init_128 : decode cX7_init 128 = .ok (.istore_n 1, 1) := by decide +kernel
theorem dX7_init_129 : decode cX7_init 129 = .ok (.iload_n 1, 1) := by decide +kernel
theorem dX7_init_130 : decode cX7_init 130 = .ok (.iconst 4, 1) := by decide +kernel
theorem dX7_init_131 : decode cX7_init 131 = .ok (.if_icmp .ge 22, 3) := by decide +kernel
theorem dX7_init_134 : decode cX7_init 134 = .ok (.aload_n 0, 1) := by decide +kernel
theorem dX7_init_135 : decode cX7_init 135 = .ok (.getfield 60, 3) := by decide +kernel
theorem dX7_init_138 : decode cX7_init 138 = .ok (.iload_n 1, 1) := by decide +kernel
theorem dX7_init_139 : decode cX7_init 139 = .ok (.new 58, 3) := by decide +kernel
theorem dX7_init_142 : decode cX7_init 142 = .ok (.dup, 1) := by decide +kernel
theorem dX7_init_143 : decode cX7_init 143 = .ok (.invokespecial 77, 3) := by decide +kernel
theorem dX7_init_146 : decode cX7_init 146 = .ok (.aastore, 1) := by decide +kernel
theorem dX7_init_147 : decode cX7_init 147 = .ok (.iinc 1 1, 3) := by decide +kernel
theorem dX7_init_150 : decode cX7_init 150 = .ok (.goto (-21), 3) := by decide +kernel
theorem dX7_init_153 : decode cX7_init 153 = .ok (.iconst 0, 1) := by decide +kernel
theorem dX7_init_154 : decode cX7_init 154 = .ok (.istore_n 1, 1) := by decide +kernel
theorem dX7_init_155 : decode cX7_init 155 = .ok (.iload_n 1, 1) := by decide +kernel
theorem dX7_init_156 : decode cX7_init 156 = .ok (.iconst 5, 1) := by decide +kernel
theorem dX7_init_157 : decode cX7_init 157 = .ok (.if_icmp .ge 22, 3) := by decide +kernel
theorem dX7_init_160 : decode cX7_init 160 = .ok (.aload_n 0, 1) := by decide +kernel
theorem dX7_init_161 : decode cX7_init 161 = .ok (.getfield 66, 3) := by decide +kernel
theorem dX7_init_164 : decode cX7_init 164 = .ok (.iload_n 1, 1) := by decide +kernel
theorem dX7_init_165 : decode cX7_init 165 = .ok (.new 64, 3) := by decide +kernel
theorem dX7_init_168 : decode cX7_init 168 = .ok (.dup, 1) := by decide +kernel
theorem dX7_init_169 : decode cX7_init 169 = .ok (.invokespecial 78, 3) := by decide +kernel
theorem dX7_init_172 : decode cX7_init 172 = .ok (.aastore, 1) := by decide +kernel
theorem dX7_init_173 : decode cX7_init 173 = .ok (.iinc 1 1, 3) := by decide +kernel
theorem dX7_init_176 : decode cX7_init 176 = .ok (.goto (-21), 3) := by decide +kernel
theorem dX7_init_179 : decode cX7_init 179 = .ok (.return_, 1) := by decide +kernel
theorem dX7_letter_0 : decode cX7_letter 0 = .ok (.iload_n 1, 1) := by decide +kernel
theorem dX7_letter_1 : decode cX7_letter 1 = .ok (.invokestatic 79, 3) := by decide +kernel
theorem dX7_letter_4 : decode cX7_letter 4 = .ok (.ifCond .eq 17, 3) := by decide +kernel
theorem dX7_letter_7 : decode cX7_letter 7 = .ok (.iload_n 2, 1) := by decide +kernel
theorem dX7_letter_8 : decode cX7_letter 8 = .ok (.invokestatic 83, 3) := by decide +kernel
theorem dX7_letter_11 : decode cX7_letter 11 = .ok (.ifCond .eq 10, 3) := by decide +kernel
theorem dX7_letter_14 : decode cX7_letter 14 = .ok (.iload_n 3, 1) := by decide +kernel
theorem dX7_letter_15 : decode cX7_letter 15 = .ok (.invokestatic 86, 3) := by decide +kernel
theorem dX7_letter_18 : decode cX7_letter 18 = .ok (.ifCond .ne 6, 3) := by decide +kernel
theorem dX7_letter_21 : decode cX7_letter 21 = .ok (.ldc 89, 2) := by decide +kernel
theorem dX7_letter_23 : decode cX7_letter 23 = .ok (.ireturn, 1) := by decide +kernel
theorem dX7_letter_24 : decode cX7_letter 24 = .ok (.aload_n 0, 1) := by decide +kernel
theorem dX7_letter_25 : decode cX7_letter 25 = .ok (.getfield 10, 3) := by decide +kernel
theorem dX7_letter_28 : decode cX7_letter 28 = .ok (.getfield 90, 3) := by decide +kernel
theorem dX7_letter_31 : decode cX7_letter 31 = .ok (.bipush 14, 2) := by decide +kernel
theorem dX7_letter_33 : decode cX7_letter 33 = .ok (.if_icmp .ne 6, 3) := by decide +kernel
theorem dX7_letter_36 : decode cX7_letter 36 = .ok (.ldc 93, 2) := by decide +kernel
theorem dX7_letter_38 : decode cX7_letter 38 = .ok (.ireturn, 1) := by decide +kernel
theorem dX7_letter_39 : decode cX7_letter 39 = .ok (.aload_n 0, 1) := by decide +kernel
theorem dX7_letter_40 : decode cX7_letter 40 = .ok (.getfield 10, 3) := by decide +kernel
theorem dX7_letter_43 : decode cX7_letter 43 = .ok (.iload_n 1, 1) := by decide +kernel
theorem dX7_letter_44 : decode cX7_letter 44 = .ok (.iload_n 2, 1) := by decide +kernel
theorem dX7_letter_45 : decode cX7_letter 45 = .ok (.iload_n 3, 1) := by decide +kernel
theorem dX7_letter_46 : decode cX7_letter 46 = .ok (.invokevirtual 94, 3) := by decide +kernel
theorem dX7_letter_49 : decode cX7_letter 49 = .ok (.ireturn, 1) := by decide +kernel
theorem dX7_told_0 : decode cX7_told 0 = .ok (.aload_n 0, 1) := by decide +kernel
theorem dX7_told_1 : decode cX7_told 1 = .ok (.getfield 10, 3) := by decide +kernel
theorem dX7_told_4 : decode cX7_told 4 = .ok (.iload_n 1, 1) := by decide +kernel
theorem dX7_told_5 : decode cX7_told 5 = .ok (.invokevirtual 98, 3) := by decide +kernel
theorem dX7_told_8 : decode cX7_told 8 = .ok (.ifCond .ne 6, 3) := by decide +kernel
theorem dX7_told_11 : decode cX7_told 11 = .ok (.ldc 89, 2) := by decide +kernel
theorem dX7_told_13 : decode cX7_told 13 = .ok (.ireturn, 1) := by decide +kernel
theorem dX7_told_14 : decode cX7_told 14 = .ok (.iload_n 2, 1) := by decide +kernel
theorem dX7_told_15 : decode cX7_told 15 = .ok (.tableswitch 139 0 7 #[45, 55, 65, 75, 84, 94, 104, 117], 45) := by decide +kernel
theorem dX7_told_60 : decode cX7_told 60 = .ok (.aload_n 0, 1) := by decide +kernel
theorem dX7_told_61 : decode cX7_told 61 = .ok (.getfield 10, 3) := by decide +kernel
theorem dX7_told_64 : decode cX7_told 64 = .ok (.getfield 101, 3) := by decide +kernel
theorem dX7_told_67 : decode cX7_told 67 = .ok (.iload_n 1, 1) := by decide +kernel
theorem dX7_told_68 : decode cX7_told 68 = .ok (.iaload, 1) := by decide +kernel
theorem dX7_told_69 : decode cX7_told 69 = .ok (.ireturn, 1) := by decide +kernel
theorem dX7_told_70 : decode cX7_told 70 = .ok (.aload_n 0, 1) := by decide +kernel
theorem dX7_told_71 : decode cX7_told 71 = .ok (.getfield 10, 3) := by decide +kernel
theorem dX7_told_74 : decode cX7_told 74 = .ok (.getfield 104, 3) := by decide +kernel
theorem dX7_told_77 : decode cX7_told 77 = .ok (.iload_n 1, 1) := by decide +kernel
theorem dX7_told_78 : decode cX7_told 78 = .ok (.iaload, 1) := by decide +kernel
theorem dX7_told_79 : decode cX7_told 79 = .ok (.ireturn, 1) := by decide +kernel
theorem dX7_told_80 : decode cX7_told 80 = .ok (.aload_n 0, 1) := by decide +kernel
theorem dX7_told_81 : decode cX7_told 81 = .ok (.getfield 10, 3) := by decide +kernel
theorem dX7_told_84 : decode cX7_told 84 = .ok (.getfield 107, 3) := by decide +kernel
theorem dX7_told_87 : decode cX7_told 87 = .ok (.iload_n 1, 1) := by decide +kernel
theorem dX7_told_88 : decode cX7_told 88 = .ok (.iaload, 1) := by decide +kernel
theorem dX7_told_89 : decode cX7_told 89 = .ok (.ireturn, 1) := by decide +kernel
theorem dX7_told_90 : decode cX7_told 90 = .ok (.aload_n 0, 1) := by decide +kernel
theorem dX7_told_91 : decode cX7_told 91 = .ok (.getfield 10, 3) := by decide +kernel
theorem dX7_told_94 : decode cX7_told 94 = .ok (.iload_n 1, 1) := by decide +kernel
theorem dX7_told_95 : decode cX7_told 95 = .ok (.invokevirtual 110, 3) := by decide +kernel
theorem dX7_told_98 : decode cX7_told 98 = .ok (.ireturn, 1) := by decide +kernel
theorem dX7_told_99 : decode cX7_told 99 = .ok (.aload_n 0, 1) := by decide +kernel
theorem dX7_told_100 : decode cX7_told 100 = .ok (.getfield 10, 3) := by decide +kernel
theorem dX7_told_103 : decode cX7_told 103 = .ok (.getfield 114, 3) := by decide +kernel
theorem dX7_told_106 : decode cX7_told 106 = .ok (.iload_n 1, 1) := by decide +kernel
theorem dX7_told_107 : decode cX7_told 107 = .ok (.iaload, 1) := by decide +kernel
theorem dX7_told_108 : decode cX7_told 108 = .ok (.ireturn, 1) := by decide +kernel
theorem dX7_told_109 : decode cX7_told 109 = .ok (.aload_n 0, 1) := by decide +kernel
theorem dX7_told_110 : decode cX7_told 110 = .ok (.getfield 10, 3) := by decide +kernel
theorem dX7_told_113 : decode cX7_told 113 = .ok (.getfield 117, 3) := by decide +kernel
theorem dX7_told_116 : decode cX7_told 116 = .ok (.iload_n 1, 1) := by decide +kernel
theorem dX7_told_117 : decode cX7_told 117 = .ok (.iaload, 1) := by decide +kernel
theorem dX7_told_118 : decode cX7_told 118 = .ok (.ireturn, 1) := by decide +kernel
theorem dX7_told_119 : decode cX7_told 119 = .ok (.aload_n 0, 1) := by decide +kernel
theorem dX7_told_120 : decode cX7_told 120 = .ok (.getfield 10, 3) := by decide +kernel
theorem dX7_told_123 : decode cX7_told 123 = .ok (.getfield 101, 3) := by decide +kernel
theorem dX7_told_126 : decode cX7_told 126 = .ok (.iload_n 1, 1) := by decide +kernel
theorem dX7_told_127 : decode cX7_told 127 = .ok (.iaload, 1) := by decide +kernel
theorem dX7_told_128 : decode cX7_told 128 = .ok (.invokestatic 120, 3) := by decide +kernel
theorem dX7_told_131 : decode cX7_told 131 = .ok (.ireturn, 1) := by decide +kernel
theorem dX7_told_132 : decode cX7_told 132 = .ok (.aload_n 0, 1) := by decide +kernel
theorem dX7_told_133 : decode cX7_told 133 = .ok (.getfield 10, 3) := by decide +kernel
theorem dX7_told_136 : decode cX7_told 136 = .ok (.getfield 101, 3) := by decide +kernel
theorem dX7_told_139 : decode cX7_told 139 = .ok (.iload_n 1, 1) := by decide +kernel
theorem dX7_told_140 : decode cX7_told 140 = .ok (.iaload, 1) := by decide +kernel
theorem dX7_told_141 : decode cX7_told 141 = .ok (.aload_n 0, 1) := by decide +kernel
theorem dX7_told_142 : decode cX7_told 142 = .ok (.getfield 10, 3) := by decide +kernel
theorem dX7_told_145 : decode cX7_told 145 = .ok (.getfield 104, 3) := by decide +kernel
theorem dX7_told_148 : decode cX7_told 148 = .ok (.iload_n 1, 1) := by decide +kernel
theorem dX7_told_149 : decode cX7_told 149 = .ok (.iaload, 1) := by decide +kernel
theorem dX7_told_150 : decode cX7_told 150 = .ok (.invokestatic 125, 3) := by decide +kernel
theorem dX7_told_153 : decode cX7_told 153 = .ok (.ireturn, 1) := by decide +kernel
theorem dX7_told_154 : decode cX7_told 154 = .ok (.ldc 89, 2) := by decide +kernel
theorem dX7_told_156 : decode cX7_told 156 = .ok (.ireturn, 1) := by decide +kernel
theorem dX7_as_0 : decode cX7_as 0 = .ok (.aload_n 0, 1) := by decide +kernel
theorem dX7_as_1 : decode cX7_as 1 = .ok (.getfield 10, 3) := by decide +kernel
theorem dX7_as_4 : decode cX7_as 4 = .ok (.iload_n 1, 1) := by decide +kernel
theorem dX7_as_5 : decode cX7_as 5 = .ok (.invokevirtual 98, 3) := by decide +kernel
theorem dX7_as_8 : decode cX7_as 8 = .ok (.ifCond .eq 10, 3) := by decide +kernel
theorem dX7_as_11 : decode cX7_as 11 = .ok (.iload_n 2, 1) := by decide +kernel
theorem dX7_as_12 : decode cX7_as 12 = .ok (.invokestatic 79, 3) := by decide +kernel
theorem dX7_as_15 : decode cX7_as 15 = .ok (.ifCond .ne 6, 3) := by decide +kernel
theorem dX7_as_18 : decode cX7_as 18 = .ok (.ldc 89, 2) := by decide +kernel
theorem dX7_as_20 : decode cX7_as 20 = .ok (.ireturn, 1) := by decide +kernel
theorem dX7_as_21 : decode cX7_as 21 = .ok (.aload_n 0, 1) := by decide +kernel
theorem dX7_as_22 : decode cX7_as 22 = .ok (.getfield 10, 3) := by decide +kernel
theorem dX7_as_25 : decode cX7_as 25 = .ok (.getfield 101, 3) := by decide +kernel
theorem dX7_as_28 : decode cX7_as 28 = .ok (.iload_n 1, 1) := by decide +kernel
theorem dX7_as_29 : decode cX7_as 29 = .ok (.iaload, 1) := by decide +kernel
theorem dX7_as_30 : decode cX7_as 30 = .ok (.iload_n 2, 1) := by decide +kernel
theorem dX7_as_31 : decode cX7_as 31 = .ok (.invokestatic 129, 3) := by decide +kernel
theorem dX7_as_34 : decode cX7_as 34 = .ok (.ifCond .eq 15, 3) := by decide +kernel
theorem dX7_as_37 : decode cX7_as 37 = .ok (.aload_n 0, 1) := by decide +kernel
theorem dX7_as_38 : decode cX7_as 38 = .ok (.getfield 10, 3) := by decide +kernel
theorem dX7_as_41 : decode cX7_as 41 = .ok (.getfield 104, 3) := by decide +kernel
theorem dX7_as_44 : decode cX7_as 44 = .ok (.iload_n 1, 1) := by decide +kernel
theorem dX7_as_45 : decode cX7_as 45 = .ok (.iaload, 1) := by decide +kernel
theorem dX7_as_46 : decode cX7_as 46 = .ok (.goto 5, 3) := by decide +kernel
theorem dX7_as_49 : decode cX7_as 49 = .ok (.ldc 133, 2) := by decide +kernel
theorem dX7_as_51 : decode cX7_as 51 = .ok (.ireturn, 1) := by decide +kernel
theorem dX7_turns_0 : decode cX7_turns 0 = .ok (.aload_n 0, 1) := by decide +kernel
theorem dX7_turns_1 : decode cX7_turns 1 = .ok (.getfield 10, 3) := by decide +kernel
theorem dX7_turns_4 : decode cX7_turns 4 = .ok (.iload_n 1, 1) := by decide +kernel
theorem dX7_turns_5 : decode cX7_turns 5 = .ok (.invokevirtual 98, 3) := by decide +kernel
theorem dX7_turns_8 : decode cX7_turns 8 = .ok (.ifCond .eq 10, 3) := by decide +kernel
theorem dX7_turns_11 : decode cX7_turns 11 = .ok (.iload_n 2, 1) := by decide +kernel
theorem dX7_turns_12 : decode cX7_turns 12 = .ok (.invokestatic 79, 3) := by decide +kernel
theorem dX7_turns_15 : decode cX7_turns 15 = .ok (.ifCond .ne 6, 3) := by decide +kernel
theorem dX7_turns_18 : decode cX7_turns 18 = .ok (.ldc 89, 2) := by decide +kernel
theorem dX7_turns_20 : decode cX7_turns 20 = .ok (.ireturn, 1) := by decide +kernel
theorem dX7_turns_21 : decode cX7_turns 21 = .ok (.aload_n 0, 1) := by decide +kernel
theorem dX7_turns_22 : decode cX7_turns 22 = .ok (.getfield 10, 3) := by decide +kernel
theorem dX7_turns_25 : decode cX7_turns 25 = .ok (.getfield 101, 3) := by decide +kernel
theorem dX7_turns_28 : decode cX7_turns 28 = .ok (.iload_n 1, 1) := by decide +kernel
theorem dX7_turns_29 : decode cX7_turns 29 = .ok (.iaload, 1) := by decide +kernel
theorem dX7_turns_30 : decode cX7_turns 30 = .ok (.istore_n 3, 1) := by decide +kernel
theorem dX7_turns_31 : decode cX7_turns 31 = .ok (.aload_n 0, 1) := by decide +kernel
theorem dX7_turns_32 : decode cX7_turns 32 = .ok (.getfield 10, 3) := by decide +kernel
theorem dX7_turns_35 : decode cX7_turns 35 = .ok (.iload_n 1, 1) := by decide +kernel
theorem dX7_turns_36 : decode cX7_turns 36 = .ok (.iload_n 2, 1) := by decide +kernel
theorem dX7_turns_37 : decode cX7_turns 37 = .ok (.aload_n 0, 1) := by decide +kernel
theorem dX7_turns_38 : decode cX7_turns 38 = .ok (.getfield 10, 3) := by decide +kernel
theorem dX7_turns_41 : decode cX7_turns 41 = .ok (.getfield 104, 3) := by decide +kernel
theorem dX7_turns_44 : decode cX7_turns 44 = .ok (.iload_n 1, 1) := by decide +kernel
theorem dX7_turns_45 : decode cX7_turns 45 = .ok (.iaload, 1) := by decide +kernel
theorem dX7_turns_46 : decode cX7_turns 46 = .ok (.aload_n 0, 1) := by decide +kernel
theorem dX7_turns_47 : decode cX7_turns 47 = .ok (.getfield 10, 3) := by decide +kernel
theorem dX7_turns_50 : decode cX7_turns 50 = .ok (.getfield 107, 3) := by decide +kernel
theorem dX7_turns_53 : decode cX7_turns 53 = .ok (.iload_n 1, 1) := by decide +kernel
theorem dX7_turns_54 : decode cX7_turns 54 = .ok (.iaload, 1) := by decide +kernel
theorem dX7_turns_55 : decode cX7_turns 55 = .ok (.invokevirtual 134, 3) := by decide +kernel
theorem dX7_turns_58 : decode cX7_turns 58 = .ok (.iload_n 3, 1) := by decide +kernel
theorem dX7_turns_59 : decode cX7_turns 59 = .ok (.ireturn, 1) := by decide +kernel
theorem dX7_set_0 : decode cX7_set 0 = .ok (.aload_n 0, 1) := by decide +kernel
theorem dX7_set_1 : decode cX7_set 1 = .ok (.getfield 10, 3) := by decide +kernel
theorem dX7_set_4 : decode cX7_set 4 = .ok (.iload_n 1, 1) := by decide +kernel
theorem dX7_set_5 : decode cX7_set 5 = .ok (.invokevirtual 98, 3) := by decide +kernel
theorem dX7_set_8 : decode cX7_set 8 = .ok (.ifCond .ne 6, 3) := by decide +kernel
theorem dX7_set_11 : decode cX7_set 11 = .ok (.ldc 89, 2) := by decide +kernel
theorem dX7_set_13 : decode cX7_set 13 = .ok (.ireturn, 1) := by decide +kernel
theorem dX7_set_14 : decode cX7_set 14 = .ok (.aload_n 0, 1) := by decide +kernel
theorem dX7_set_15 : decode cX7_set 15 = .ok (.getfield 10, 3) := by decide +kernel
theorem dX7_set_18 : decode cX7_set 18 = .ok (.getfield 104, 3) := by decide +kernel
theorem dX7_set_21 : decode cX7_set 21 = .ok (.iload_n 1, 1) := by decide +kernel
theorem dX7_set_22 : decode cX7_set 22 = .ok (.iaload, 1) := by decide +kernel
theorem dX7_set_23 : decode cX7_set 23 = .ok (.istore 4, 2) := by decide +kernel
theorem dX7_set_25 : decode cX7_set 25 = .ok (.aload_n 0, 1) := by decide +kernel
theorem dX7_set_26 : decode cX7_set 26 = .ok (.getfield 10, 3) := by decide +kernel
theorem dX7_set_29 : decode cX7_set 29 = .ok (.getfield 107, 3) := by decide +kernel
theorem dX7_set_32 : decode cX7_set 32 = .ok (.iload_n 1, 1) := by decide +kernel
theorem dX7_set_33 : decode cX7_set 33 = .ok (.iaload, 1) := by decide +kernel
theorem dX7_set_34 : decode cX7_set 34 = .ok (.istore 5, 2) := by decide +kernel
theorem dX7_set_36 : decode cX7_set 36 = .ok (.iload_n 2, 1) := by decide +kernel
theorem dX7_set_37 : decode cX7_set 37 = .ok (.iconst 1, 1) := by decide +kernel
theorem dX7_set_38 : decode cX7_set 38 = .ok (.if_icmp .ne 33, 3) := by decide +kernel
theorem dX7_set_41 : decode cX7_set 41 = .ok (.iload_n 3, 1) := by decide +kernel
theorem dX7_set_42 : decode cX7_set 42 = .ok (.invokestatic 83, 3) := by decide +kernel
theorem dX7_set_45 : decode cX7_set 45 = .ok (.ifCond .eq 26, 3) := by decide +kernel
theorem dX7_set_48 : decode cX7_set 48 = .ok (.aload_n 0, 1) := by decide +kernel
theorem dX7_set_49 : decode cX7_set 49 = .ok (.getfield 10, 3) := by decide +kernel
theorem dX7_set_52 : decode cX7_set 52 = .ok (.iload_n 1, 1) := by decide +kernel
theorem dX7_set_53 : decode cX7_set 53 = .ok (.aload_n 0, 1) := by decide +kernel
theorem dX7_set_54 : decode cX7_set 54 = .ok (.getfield 10, 3) := by decide +kernel
theorem dX7_set_57 : decode cX7_set 57 = .ok (.getfield 101, 3) := by decide +kernel
theorem dX7_set_60 : decode cX7_set 60 = .ok (.iload_n 1, 1) := by decide +kernel
theorem dX7_set_61 : decode cX7_set 61 = .ok (.iaload, 1) := by decide +kernel
theorem dX7_set_62 : decode cX7_set 62 = .ok (.iload_n 3, 1) := by decide +kernel
theorem dX7_set_63 : decode cX7_set 63 = .ok (.iload 5, 2) := by decide +kernel
theorem dX7_set_65 : decode cX7_set 65 = .ok (.invokevirtual 134, 3) := by decide +kernel
theorem dX7_set_68 : decode cX7_set 68 = .ok (.iload 4, 2) := by decide +kernel
theorem dX7_set_70 : decode cX7_set 70 = .ok (.ireturn, 1) := by decide +kernel
theorem dX7_set_71 : decode cX7_set 71 = .ok (.iload_n 2, 1) := by decide +kernel
theorem dX7_set_72 : decode cX7_set 72 = .ok (.iconst 2, 1) := by decide +kernel
theorem dX7_set_73 : decode cX7_set 73 = .ok (.if_icmp .ne 33, 3) := by decide +kernel
theorem dX7_set_76 : decode cX7_set 76 = .ok (.iload_n 3, 1) := by decide +kernel
theorem dX7_set_77 : decode cX7_set 77 = .ok (.invokestatic 86, 3) := by decide +kernel
theorem dX7_set_80 : decode cX7_set 80 = .ok (.ifCond .eq 26, 3) := by decide +kernel
theorem dX7_set_83 : decode cX7_set 83 = .ok (.aload_n 0, 1) := by decide +kernel
theorem dX7_set_84 : decode cX7_set 84 = .ok (.getfield 10, 3) := by decide +kernel
theorem dX7_set_87 : decode cX7_set 87 = .ok (.iload_n 1, 1) := by decide +kernel
theorem dX7_set_88 : decode cX7_set 88 = .ok (.aload_n 0, 1) := by decide +kernel
theorem dX7_set_89 : decode cX7_set 89 = .ok (.getfield 10, 3) := by decide +kernel
theorem dX7_set_92 : decode cX7_set 92 = .ok (.getfield 101, 3) := by decide +kernel
theorem dX7_set_95 : decode cX7_set 95 = .ok (.iload_n 1, 1) := by decide +kernel
theorem dX7_set_96 : decode cX7_set 96 = .ok (.iaload, 1) := by decide +kernel
theorem dX7_set_97 : decode cX7_set 97 = .ok (.iload 4, 2) := by decide +kernel
theorem dX7_set_99 : decode cX7_set 99 = .ok (.iload_n 3, 1) := by decide +kernel
theorem dX7_set_100 : decode cX7_set 100 = .ok (.invokevirtual 134, 3) := by decide +kernel
theorem dX7_set_103 : decode cX7_set 103 = .ok (.iload 5, 2) := by decide +kernel
theorem dX7_set_105 : decode cX7_set 105 = .ok (.ireturn, 1) := by decide +kernel
theorem dX7_set_106 : decode cX7_set 106 = .ok (.ldc 89, 2) := by decide +kernel
theorem dX7_set_108 : decode cX7_set 108 = .ok (.ireturn, 1) := by decide +kernel
theorem dX7_puts_0 : decode cX7_puts 0 = .ok (.aload_n 0, 1) := by decide +kernel
theorem dX7_puts_1 : decode cX7_puts 1 = .ok (.getfield 10, 3) := by decide +kernel
theorem dX7_puts_4 : decode cX7_puts 4 = .ok (.iload_n 1, 1) := by decide +kernel
theorem dX7_puts_5 : decode cX7_puts 5 = .ok (.invokevirtual 98, 3) := by decide +kernel
theorem dX7_puts_8 : decode cX7_puts 8 = .ok (.ifCond .eq 14, 3) := by decide +kernel
theorem dX7_puts_11 : decode cX7_puts 11 = .ok (.aload_n 0, 1) := by decide +kernel
theorem dX7_puts_12 : decode cX7_puts 12 = .ok (.getfield 10, 3) := by decide +kernel
theorem dX7_puts_15 : decode cX7_puts 15 = .ok (.iload_n 2, 1) := by decide +kernel
theorem dX7_puts_16 : decode cX7_puts 16 = .ok (.invokevirtual 98, 3) := by decide +kernel
theorem dX7_puts_19 : decode cX7_puts 19 = .ok (.ifCond .ne 6, 3) := by decide +kernel
theorem dX7_puts_22 : decode cX7_puts 22 = .ok (.ldc 89, 2) := by decide +kernel
theorem dX7_puts_24 : decode cX7_puts 24 = .ok (.ireturn, 1) := by decide +kernel
theorem dX7_puts_25 : decode cX7_puts 25 = .ok (.aload_n 0, 1) := by decide +kernel
theorem dX7_puts_26 : decode cX7_puts 26 = .ok (.getfield 10, 3) := by decide +kernel
theorem dX7_puts_29 : decode cX7_puts 29 = .ok (.iload_n 1, 1) := by decide +kernel
theorem dX7_puts_30 : decode cX7_puts 30 = .ok (.invokevirtual 110, 3) := by decide +kernel
theorem dX7_puts_33 : decode cX7_puts 33 = .ok (.istore_n 3, 1) := by decide +kernel
theorem dX7_puts_34 : decode cX7_puts 34 = .ok (.aload_n 0, 1) := by decide +kernel
theorem dX7_puts_35 : decode cX7_puts 35 = .ok (.getfield 10, 3) := by decide +kernel
theorem dX7_puts_38 : decode cX7_puts 38 = .ok (.iload_n 3, 1) := by decide +kernel
theorem dX7_puts_39 : decode cX7_puts 39 = .ok (.iload_n 2, 1) := by decide +kernel
theorem dX7_puts_40 : decode cX7_puts 40 = .ok (.invokevirtual 138, 3) := by decide +kernel
theorem dX7_puts_43 : decode cX7_puts 43 = .ok (.iload_n 3, 1) := by decide +kernel
theorem dX7_puts_44 : decode cX7_puts 44 = .ok (.ireturn, 1) := by decide +kernel
theorem dX7_at_0 : decode cX7_at 0 = .ok (.aload_n 0, 1) := by decide +kernel
theorem dX7_at_1 : decode cX7_at 1 = .ok (.getfield 10, 3) := by decide +kernel
theorem dX7_at_4 : decode cX7_at 4 = .ok (.iload_n 1, 1) := by decide +kernel
theorem dX7_at_5 : decode cX7_at 5 = .ok (.invokevirtual 98, 3) := by decide +kernel
theorem dX7_at_8 : decode cX7_at 8 = .ok (.ifCond .eq 15, 3) := by decide +kernel
theorem dX7_at_11 : decode cX7_at 11 = .ok (.aload_n 0, 1) := by decide +kernel
theorem dX7_at_12 : decode cX7_at 12 = .ok (.getfield 10, 3) := by decide +kernel
theorem dX7_at_15 : decode cX7_at 15 = .ok (.getfield 142, 3) := by decide +kernel
theorem dX7_at_18 : decode cX7_at 18 = .ok (.iload_n 1, 1) := by decide +kernel
theorem dX7_at_19 : decode cX7_at 19 = .ok (.iaload, 1) := by decide +kernel
theorem dX7_at_20 : decode cX7_at 20 = .ok (.goto 5, 3) := by decide +kernel
theorem dX7_at_23 : decode cX7_at 23 = .ok (.ldc 89, 2) := by decide +kernel
theorem dX7_at_25 : decode cX7_at 25 = .ok (.ireturn, 1) := by decide +kernel
theorem dX7_halt_0 : decode cX7_halt 0 = .ok (.aload_n 0, 1) := by decide +kernel
theorem dX7_halt_1 : decode cX7_halt 1 = .ok (.getfield 10, 3) := by decide +kernel
theorem dX7_halt_4 : decode cX7_halt 4 = .ok (.invokevirtual 145, 3) := by decide +kernel
theorem dX7_halt_7 : decode cX7_halt 7 = .ok (.aload_n 0, 1) := by decide +kernel
theorem dX7_halt_8 : decode cX7_halt 8 = .ok (.getfield 10, 3) := by decide +kernel
theorem dX7_halt_11 : decode cX7_halt 11 = .ok (.getfield 90, 3) := by decide +kernel
theorem dX7_halt_14 : decode cX7_halt 14 = .ok (.ireturn, 1) := by decide +kernel
theorem dX7_bump_0 : decode cX7_bump 0 = .ok (.iload_n 1, 1) := by decide +kernel
theorem dX7_bump_1 : decode cX7_bump 1 = .ok (.iconst 0, 1) := by decide +kernel
theorem dX7_bump_2 : decode cX7_bump 2 = .ok (.bipush 100, 2) := by decide +kernel
theorem dX7_bump_4 : decode cX7_bump 4 = .ok (.invokestatic 148, 3) := by decide +kernel
theorem dX7_bump_7 : decode cX7_bump 7 = .ok (.ifCond .ne 6, 3) := by decide +kernel
theorem dX7_bump_10 : decode cX7_bump 10 = .ok (.ldc 89, 2) := by decide +kernel
theorem dX7_bump_12 : decode cX7_bump 12 = .ok (.ireturn, 1) := by decide +kernel
theorem dX7_bump_13 : decode cX7_bump 13 = .ok (.aload_n 0, 1) := by decide +kernel
theorem dX7_bump_14 : decode cX7_bump 14 = .ok (.getfield 10, 3) := by decide +kernel
theorem dX7_bump_17 : decode cX7_bump 17 = .ok (.getfield 152, 3) := by decide +kernel
theorem dX7_bump_20 : decode cX7_bump 20 = .ok (.istore_n 2, 1) := by decide +kernel
theorem dX7_bump_21 : decode cX7_bump 21 = .ok (.aload_n 0, 1) := by decide +kernel
theorem dX7_bump_22 : decode cX7_bump 22 = .ok (.getfield 10, 3) := by decide +kernel
theorem dX7_bump_25 : decode cX7_bump 25 = .ok (.iload_n 1, 1) := by decide +kernel
theorem dX7_bump_26 : decode cX7_bump 26 = .ok (.putfield 152, 3) := by decide +kernel
theorem dX7_bump_29 : decode cX7_bump 29 = .ok (.iload_n 2, 1) := by decide +kernel
theorem dX7_bump_30 : decode cX7_bump 30 = .ok (.ireturn, 1) := by decide +kernel
theorem dX7_deal_0 : decode cX7_deal 0 = .ok (.iload_n 1, 1) := by decide +kernel
theorem dX7_deal_1 : decode cX7_deal 1 = .ok (.iconst 1, 1) := by decide +kernel
theorem dX7_deal_2 : decode cX7_deal 2 = .ok (.bipush 14, 2) := by decide +kernel
theorem dX7_deal_4 : decode cX7_deal 4 = .ok (.invokestatic 148, 3) := by decide +kernel
theorem dX7_deal_7 : decode cX7_deal 7 = .ok (.ifCond .ne 6, 3) := by decide +kernel
theorem dX7_deal_10 : decode cX7_deal 10 = .ok (.ldc 89, 2) := by decide +kernel
theorem dX7_deal_12 : decode cX7_deal 12 = .ok (.ireturn, 1) := by decide +kernel
theorem dX7_deal_13 : decode cX7_deal 13 = .ok (.iload_n 1, 1) := by decide +kernel
theorem dX7_deal_14 : decode cX7_deal 14 = .ok (.bipush 14, 2) := by decide +kernel
theorem dX7_deal_16 : decode cX7_deal 16 = .ok (.aload_n 0, 1) := by decide +kernel
theorem dX7_deal_17 : decode cX7_deal 17 = .ok (.getfield 10, 3) := by decide +kernel
theorem dX7_deal_20 : decode cX7_deal 20 = .ok (.getfield 90, 3) := by decide +kernel
theorem dX7_deal_23 : decode cX7_deal 23 = .ok (.isub, 1) := by decide +kernel
theorem dX7_deal_24 : decode cX7_deal 24 = .ok (.invokestatic 155, 3) := by decide +kernel
theorem dX7_deal_27 : decode cX7_deal 27 = .ok (.istore_n 2, 1) := by decide +kernel
theorem dX7_deal_28 : decode cX7_deal 28 = .ok (.iconst 0, 1) := by decide +kernel
theorem dX7_deal_29 : decode cX7_deal 29 = .ok (.istore_n 3, 1) := by decide +kernel
theorem dX7_deal_30 : decode cX7_deal 30 = .ok (.iload_n 3, 1) := by decide +kernel
theorem dX7_deal_31 : decode cX7_deal 31 = .ok (.iload_n 2, 1) := by decide +kernel
theorem dX7_deal_32 : decode cX7_deal 32 = .ok (.if_icmp .ge 61, 3) := by decide +kernel
theorem dX7_deal_35 : decode cX7_deal 35 = .ok (.aload_n 0, 1) := by decide +kernel
theorem dX7_deal_36 : decode cX7_deal 36 = .ok (.getfield 10, 3) := by decide +kernel
theorem dX7_deal_39 : decode cX7_deal 39 = .ok (.invokevirtual 160, 3) := by decide +kernel
theorem dX7_deal_42 : decode cX7_deal 42 = .ok (.bipush 6, 2) := by decide +kernel
theorem dX7_deal_44 : decode cX7_deal 44 = .ok (.irem, 1) := by decide +kernel
theorem dX7_deal_45 : decode cX7_deal 45 = .ok (.istore 4, 2) := by decide +kernel
theorem dX7_deal_47 : decode cX7_deal 47 = .ok (.iconst 1, 1) := by decide +kernel
theorem dX7_deal_48 : decode cX7_deal 48 = .ok (.aload_n 0, 1) := by decide +kernel
theorem dX7_deal_49 : decode cX7_deal 49 = .ok (.getfield 10, 3) := by decide +kernel
theorem dX7_deal_52 : decode cX7_deal 52 = .ok (.invokevirtual 160, 3) := by decide +kernel
theorem dX7_deal_55 : decode cX7_deal 55 = .ok (.bipush 99, 2) := by decide +kernel
theorem dX7_deal_57 : decode cX7_deal 57 = .ok (.irem, 1) := by decide +kernel
theorem dX7_deal_58 : decode cX7_deal 58 = .ok (.iadd, 1) := by decide +kernel
theorem dX7_deal_59 : decode cX7_deal 59 = .ok (.istore 5, 2) := by decide +kernel
theorem dX7_deal_61 : decode cX7_deal 61 = .ok (.aload_n 0, 1) := by decide +kernel
theorem dX7_deal_62 : decode cX7_deal 62 = .ok (.getfield 10, 3) := by decide +kernel
theorem dX7_deal_65 : decode cX7_deal 65 = .ok (.invokevirtual 160, 3) := by decide +kernel
theorem dX7_deal_68 : decode cX7_deal 68 = .ok (.bipush 10, 2) := by decide +kernel
theorem dX7_deal_70 : decode cX7_deal 70 = .ok (.irem, 1) := by decide +kernel
theorem dX7_deal_71 : decode cX7_deal 71 = .ok (.istore 6, 2) := by decide +kernel
theorem dX7_deal_73 : decode cX7_deal 73 = .ok (.aload_n 0, 1) := by decide +kernel
theorem dX7_deal_74 : decode cX7_deal 74 = .ok (.getfield 10, 3) := by decide +kernel
theorem dX7_deal_77 : decode cX7_deal 77 = .ok (.iload 4, 2) := by decide +kernel
theorem dX7_deal_79 : decode cX7_deal 79 = .ok (.iload 5, 2) := by decide +kernel
theorem dX7_deal_81 : decode cX7_deal 81 = .ok (.iload 6, 2) := by decide +kernel
theorem dX7_deal_83 : decode cX7_deal 83 = .ok (.invokevirtual 94, 3) := by decide +kernel
theorem dX7_deal_86 : decode cX7_deal 86 = .ok (.pop, 1) := by decide +kernel
theorem dX7_deal_87 : decode cX7_deal 87 = .ok (.iinc 3 1, 3) := by decide +kernel
theorem dX7_deal_90 : decode cX7_deal 90 = .ok (.goto (-60), 3) := by decide +kernel
theorem dX7_deal_93 : decode cX7_deal 93 = .ok (.iload_n 2, 1) := by decide +kernel
theorem dX7_deal_94 : decode cX7_deal 94 = .ok (.ireturn, 1) := by decide +kernel
theorem dX7_seed_0 : decode cX7_seed 0 = .ok (.aload_n 0, 1) := by decide +kernel
theorem dX7_seed_1 : decode cX7_seed 1 = .ok (.getfield 10, 3) := by decide +kernel
theorem dX7_seed_4 : decode cX7_seed 4 = .ok (.getfield 164, 3) := by decide +kernel
theorem dX7_seed_7 : decode cX7_seed 7 = .ok (.istore_n 2, 1) := by decide +kernel
theorem dX7_seed_8 : decode cX7_seed 8 = .ok (.aload_n 0, 1) := by decide +kernel
theorem dX7_seed_9 : decode cX7_seed 9 = .ok (.getfield 10, 3) := by decide +kernel
theorem dX7_seed_12 : decode cX7_seed 12 = .ok (.iload_n 1, 1) := by decide +kernel
theorem dX7_seed_13 : decode cX7_seed 13 = .ok (.putfield 164, 3) := by decide +kernel
theorem dX7_seed_16 : decode cX7_seed 16 = .ok (.iload_n 2, 1) := by decide +kernel
theorem dX7_seed_17 : decode cX7_seed 17 = .ok (.ireturn, 1) := by decide +kernel
theorem dX7_jolts_0 : decode cX7_jolts 0 = .ok (.iload_n 1, 1) := by decide +kernel
theorem dX7_jolts_1 : decode cX7_jolts 1 = .ok (.iconst 1, 1) := by decide +kernel
theorem dX7_jolts_2 : decode cX7_jolts 2 = .ok (.bipush 100, 2) := by decide +kernel
theorem dX7_jolts_4 : decode cX7_jolts 4 = .ok (.invokestatic 148, 3) := by decide +kernel
theorem dX7_jolts_7 : decode cX7_jolts 7 = .ok (.ifCond .ne 6, 3) := by decide +kernel
theorem dX7_jolts_10 : decode cX7_jolts 10 = .ok (.ldc 89, 2) := by decide +kernel
theorem dX7_jolts_12 : decode cX7_jolts 12 = .ok (.ireturn, 1) := by decide +kernel
theorem dX7_jolts_13 : decode cX7_jolts 13 = .ok (.aload_n 0, 1) := by decide +kernel
theorem dX7_jolts_14 : decode cX7_jolts 14 = .ok (.getfield 10, 3) := by decide +kernel
theorem dX7_jolts_17 : decode cX7_jolts 17 = .ok (.getfield 167, 3) := by decide +kernel
theorem dX7_jolts_20 : decode cX7_jolts 20 = .ok (.istore_n 2, 1) := by decide +kernel
theorem dX7_jolts_21 : decode cX7_jolts 21 = .ok (.aload_n 0, 1) := by decide +kernel
theorem dX7_jolts_22 : decode cX7_jolts 22 = .ok (.getfield 10, 3) := by decide +kernel
theorem dX7_jolts_25 : decode cX7_jolts 25 = .ok (.iload_n 1, 1) := by decide +kernel
theorem dX7_jolts_26 : decode cX7_jolts 26 = .ok (.sipush 9999, 3) := by decide +kernel
theorem dX7_jolts_29 : decode cX7_jolts 29 = .ok (.aload_n 0, 1) := by decide +kernel
theorem dX7_jolts_30 : decode cX7_jolts 30 = .ok (.getfield 10, 3) := by decide +kernel
theorem dX7_jolts_33 : decode cX7_jolts 33 = .ok (.getfield 170, 3) := by decide +kernel
theorem dX7_jolts_36 : decode cX7_jolts 36 = .ok (.isub, 1) := by decide +kernel
theorem dX7_jolts_37 : decode cX7_jolts 37 = .ok (.invokestatic 155, 3) := by decide +kernel
theorem dX7_jolts_40 : decode cX7_jolts 40 = .ok (.invokevirtual 173, 3) := by decide +kernel
theorem dX7_jolts_43 : decode cX7_jolts 43 = .ok (.aload_n 0, 1) := by decide +kernel
theorem dX7_jolts_44 : decode cX7_jolts 44 = .ok (.getfield 10, 3) := by decide +kernel
theorem dX7_jolts_47 : decode cX7_jolts 47 = .ok (.getfield 167, 3) := by decide +kernel
theorem dX7_jolts_50 : decode cX7_jolts 50 = .ok (.iload_n 2, 1) := by decide +kernel
theorem dX7_jolts_51 : decode cX7_jolts 51 = .ok (.isub, 1) := by decide +kernel
theorem dX7_jolts_52 : decode cX7_jolts 52 = .ok (.ireturn, 1) := by decide +kernel
theorem dX7_bag_0 : decode cX7_bag 0 = .ok (.iload_n 1, 1) := by decide +kernel
theorem dX7_bag_1 : decode cX7_bag 1 = .ok (.tableswitch 75 0 4 #[35, 43, 51, 59, 67], 35) := by decide +kernel
theorem dX7_bag_36 : decode cX7_bag 36 = .ok (.aload_n 0, 1) := by decide +kernel
theorem dX7_bag_37 : decode cX7_bag 37 = .ok (.getfield 10, 3) := by decide +kernel
theorem dX7_bag_40 : decode cX7_bag 40 = .ok (.invokevirtual 177, 3) := by decide +kernel
theorem dX7_bag_43 : decode cX7_bag 43 = .ok (.ireturn, 1) := by decide +kernel
theorem dX7_bag_44 : decode cX7_bag 44 = .ok (.aload_n 0, 1) := by decide +kernel
theorem dX7_bag_45 : decode cX7_bag 45 = .ok (.getfield 10, 3) := by decide +kernel
theorem dX7_bag_48 : decode cX7_bag 48 = .ok (.invokevirtual 180, 3) := by decide +kernel
theorem dX7_bag_51 : decode cX7_bag 51 = .ok (.ireturn, 1) := by decide +kernel
theorem dX7_bag_52 : decode cX7_bag 52 = .ok (.aload_n 0, 1) := by decide +kernel
theorem dX7_bag_53 : decode cX7_bag 53 = .ok (.getfield 10, 3) := by decide +kernel
theorem dX7_bag_56 : decode cX7_bag 56 = .ok (.getfield 167, 3) := by decide +kernel
theorem dX7_bag_59 : decode cX7_bag 59 = .ok (.ireturn, 1) := by decide +kernel
theorem dX7_bag_60 : decode cX7_bag 60 = .ok (.aload_n 0, 1) := by decide +kernel
theorem dX7_bag_61 : decode cX7_bag 61 = .ok (.getfield 10, 3) := by decide +kernel
theorem dX7_bag_64 : decode cX7_bag 64 = .ok (.invokevirtual 183, 3) := by decide +kernel
theorem dX7_bag_67 : decode cX7_bag 67 = .ok (.ireturn, 1) := by decide +kernel
theorem dX7_bag_68 : decode cX7_bag 68 = .ok (.aload_n 0, 1) := by decide +kernel
theorem dX7_bag_69 : decode cX7_bag 69 = .ok (.getfield 10, 3) := by decide +kernel
theorem dX7_bag_72 : decode cX7_bag 72 = .ok (.invokevirtual 186, 3) := by decide +kernel
theorem dX7_bag_75 : decode cX7_bag 75 = .ok (.ireturn, 1) := by decide +kernel
theorem dX7_bag_76 : decode cX7_bag 76 = .ok (.ldc 89, 2) := by decide +kernel
theorem dX7_bag_78 : decode cX7_bag 78 = .ok (.ireturn, 1) := by decide +kernel
theorem dX7_behind_0 : decode cX7_behind 0 = .ok (.iload_n 1, 1) := by decide +kernel
theorem dX7_behind_1 : decode cX7_behind 1 = .ok (.iconst 0, 1) := by decide +kernel
theorem dX7_behind_2 : decode cX7_behind 2 = .ok (.bipush 100, 2) := by decide +kernel
theorem dX7_behind_4 : decode cX7_behind 4 = .ok (.invokestatic 148, 3) := by decide +kernel
theorem dX7_behind_7 : decode cX7_behind 7 = .ok (.ifCond .eq 20, 3) := by decide +kernel
theorem dX7_behind_10 : decode cX7_behind 10 = .ok (.iload_n 2, 1) := by decide +kernel
theorem dX7_behind_11 : decode cX7_behind 11 = .ok (.iconst 0, 1) := by decide +kernel
theorem dX7_behind_12 : decode cX7_behind 12 = .ok (.iconst 1, 1) := by decide +kernel
theorem dX7_behind_13 : decode cX7_behind 13 = .ok (.aload_n 0, 1) := by decide +kernel
theorem dX7_behind_14 : decode cX7_behind 14 = .ok (.getfield 10, 3) := by decide +kernel
theorem dX7_behind_17 : decode cX7_behind 17 = .ok (.getfield 90, 3) := by decide +kernel
theorem dX7_behind_20 : decode cX7_behind 20 = .ok (.iadd, 1) := by decide +kernel
theorem dX7_behind_21 : decode cX7_behind 21 = .ok (.invokestatic 148, 3) := by decide +kernel
theorem dX7_behind_24 : decode cX7_behind 24 = .ok (.ifCond .ne 6, 3) := by decide +kernel
theorem dX7_behind_27 : decode cX7_behind 27 = .ok (.ldc 89, 2) := by decide +kernel
theorem dX7_behind_29 : decode cX7_behind 29 = .ok (.ireturn, 1) := by decide +kernel
theorem dX7_behind_30 : decode cX7_behind 30 = .ok (.aload_n 0, 1) := by decide +kernel
theorem dX7_behind_31 : decode cX7_behind 31 = .ok (.iload_n 1, 1) := by decide +kernel
theorem dX7_behind_32 : decode cX7_behind 32 = .ok (.invokevirtual 189, 3) := by decide +kernel
theorem dX7_behind_35 : decode cX7_behind 35 = .ok (.iload_n 2, 1) := by decide +kernel
theorem dX7_behind_36 : decode cX7_behind 36 = .ok (.lookupswitch 44 #[(0, 28), (1, 36)], 28) := by decide +kernel
theorem dX7_behind_64 : decode cX7_behind 64 = .ok (.aload_n 0, 1) := by decide +kernel
theorem dX7_behind_65 : decode cX7_behind 65 = .ok (.getfield 19, 3) := by decide +kernel
theorem dX7_behind_68 : decode cX7_behind 68 = .ok (.invokevirtual 177, 3) := by decide +kernel
theorem dX7_behind_71 : decode cX7_behind 71 = .ok (.ireturn, 1) := by decide +kernel
theorem dX7_behind_72 : decode cX7_behind 72 = .ok (.aload_n 0, 1) := by decide +kernel
theorem dX7_behind_73 : decode cX7_behind 73 = .ok (.getfield 19, 3) := by decide +kernel
theorem dX7_behind_76 : decode cX7_behind 76 = .ok (.getfield 167, 3) := by decide +kernel
theorem dX7_behind_79 : decode cX7_behind 79 = .ok (.ireturn, 1) := by decide +kernel
theorem dX7_behind_80 : decode cX7_behind 80 = .ok (.aload_n 0, 1) := by decide +kernel
theorem dX7_behind_81 : decode cX7_behind 81 = .ok (.getfield 19, 3) := by decide +kernel
theorem dX7_behind_84 : decode cX7_behind 84 = .ok (.getfield 142, 3) := by decide +kernel
theorem dX7_behind_87 : decode cX7_behind 87 = .ok (.iload_n 2, 1) := by decide +kernel
theorem dX7_behind_88 : decode cX7_behind 88 = .ok (.iconst 2, 1) := by decide +kernel
theorem dX7_behind_89 : decode cX7_behind 89 = .ok (.isub, 1) := by decide +kernel
theorem dX7_behind_90 : decode cX7_behind 90 = .ok (.iaload, 1) := by decide +kernel
theorem dX7_behind_91 : decode cX7_behind 91 = .ok (.ireturn, 1) := by decide +kernel
theorem dX7_rests_0 : decode cX7_rests 0 = .ok (.aload_n 0, 1) := by decide +kernel
theorem dX7_rests_1 : decode cX7_rests 1 = .ok (.iconst 0, 1) := by decide +kernel
theorem dX7_rests_2 : decode cX7_rests 2 = .ok (.invokevirtual 189, 3) := by decide +kernel
theorem dX7_rests_5 : decode cX7_rests 5 = .ok (.iconst 0, 1) := by decide +kernel
theorem dX7_rests_6 : decode cX7_rests 6 = .ok (.istore_n 1, 1) := by decide +kernel
theorem dX7_rests_7 : decode cX7_rests 7 = .ok (.iload_n 1, 1) := by decide +kernel
theorem dX7_rests_8 : decode cX7_rests 8 = .ok (.sipush 300, 3) := by decide +kernel
theorem dX7_rests_11 : decode cX7_rests 11 = .ok (.if_icmp .gt 28, 3) := by decide +kernel
theorem dX7_rests_14 : decode cX7_rests 14 = .ok (.aload_n 0, 1) := by decide +kernel
theorem dX7_rests_15 : decode cX7_rests 15 = .ok (.getfield 19, 3) := by decide +kernel
theorem dX7_rests_18 : decode cX7_rests 18 = .ok (.invokevirtual 183, 3) := by decide +kernel
theorem dX7_rests_21 : decode cX7_rests 21 = .ok (.ifCond .ne 5, 3) := by decide +kernel
theorem dX7_rests_24 : decode cX7_rests 24 = .ok (.iload_n 1, 1) := by decide +kernel
theorem dX7_rests_25 : decode cX7_rests 25 = .ok (.ireturn, 1) := by decide +kernel
theorem dX7_rests_26 : decode cX7_rests 26 = .ok (.aload_n 0, 1) := by decide +kernel
theorem dX7_rests_27 : decode cX7_rests 27 = .ok (.getfield 19, 3) := by decide +kernel
theorem dX7_rests_30 : decode cX7_rests 30 = .ok (.invokevirtual 192, 3) := by decide +kernel
theorem dX7_rests_33 : decode cX7_rests 33 = .ok (.iinc 1 1, 3) := by decide +kernel
theorem dX7_rests_36 : decode cX7_rests 36 = .ok (.goto (-29), 3) := by decide +kernel
theorem dX7_rests_39 : decode cX7_rests 39 = .ok (.ldc 195, 2) := by decide +kernel
theorem dX7_rests_41 : decode cX7_rests 41 = .ok (.ireturn, 1) := by decide +kernel
theorem dX7_padding_0 : decode cX7_padding 0 = .ok (.aload_n 0, 1) := by decide +kernel
theorem dX7_padding_1 : decode cX7_padding 1 = .ok (.getfield 10, 3) := by decide +kernel
theorem dX7_padding_4 : decode cX7_padding 4 = .ok (.iload_n 1, 1) := by decide +kernel
theorem dX7_padding_5 : decode cX7_padding 5 = .ok (.invokevirtual 98, 3) := by decide +kernel
theorem dX7_padding_8 : decode cX7_padding 8 = .ok (.ifCond .eq 29, 3) := by decide +kernel
theorem dX7_padding_11 : decode cX7_padding 11 = .ok (.aload_n 0, 1) := by decide +kernel
theorem dX7_padding_12 : decode cX7_padding 12 = .ok (.getfield 10, 3) := by decide +kernel
theorem dX7_padding_15 : decode cX7_padding 15 = .ok (.iload_n 2, 1) := by decide +kernel
theorem dX7_padding_16 : decode cX7_padding 16 = .ok (.invokevirtual 98, 3) := by decide +kernel
theorem dX7_padding_19 : decode cX7_padding 19 = .ok (.ifCond .eq 18, 3) := by decide +kernel
theorem dX7_padding_22 : decode cX7_padding 22 = .ok (.iload_n 1, 1) := by decide +kernel
theorem dX7_padding_23 : decode cX7_padding 23 = .ok (.iload_n 2, 1) := by decide +kernel
theorem dX7_padding_24 : decode cX7_padding 24 = .ok (.if_icmp .eq 13, 3) := by decide +kernel
theorem dX7_padding_27 : decode cX7_padding 27 = .ok (.iload_n 3, 1) := by decide +kernel
theorem dX7_padding_28 : decode cX7_padding 28 = .ok (.iconst 0, 1) := by decide +kernel
theorem dX7_padding_29 : decode cX7_padding 29 = .ok (.bipush 40, 2) := by decide +kernel
theorem dX7_padding_31 : decode cX7_padding 31 = .ok (.invokestatic 148, 3) := by decide +kernel
theorem dX7_padding_34 : decode cX7_padding 34 = .ok (.ifCond .ne 6, 3) := by decide +kernel
theorem dX7_padding_37 : decode cX7_padding 37 = .ok (.ldc 89, 2) := by decide +kernel
theorem dX7_padding_39 : decode cX7_padding 39 = .ok (.ireturn, 1) := by decide +kernel
theorem dX7_padding_40 : decode cX7_padding 40 = .ok (.aload_n 0, 1) := by decide +kernel
theorem dX7_padding_41 : decode cX7_padding 41 = .ok (.getfield 10, 3) := by decide +kernel
theorem dX7_padding_44 : decode cX7_padding 44 = .ok (.getfield 104, 3) := by decide +kernel
theorem dX7_padding_47 : decode cX7_padding 47 = .ok (.iload_n 1, 1) := by decide +kernel
theorem dX7_padding_48 : decode cX7_padding 48 = .ok (.iaload, 1) := by decide +kernel
theorem dX7_padding_49 : decode cX7_padding 49 = .ok (.istore 4, 2) := by decide +kernel
theorem dX7_padding_51 : decode cX7_padding 51 = .ok (.iconst 0, 1) := by decide +kernel
theorem dX7_padding_52 : decode cX7_padding 52 = .ok (.istore 5, 2) := by decide +kernel
theorem dX7_padding_54 : decode cX7_padding 54 = .ok (.iload 5, 2) := by decide +kernel
theorem dX7_padding_56 : decode cX7_padding 56 = .ok (.bipush 99, 2) := by decide +kernel
theorem dX7_padding_58 : decode cX7_padding 58 = .ok (.iload 4, 2) := by decide +kernel
theorem dX7_padding_60 : decode cX7_padding 60 = .ok (.isub, 1) := by decide +kernel
theorem dX7_padding_61 : decode cX7_padding 61 = .ok (.if_icmp .gt 86, 3) := by decide +kernel
theorem dX7_padding_64 : decode cX7_padding 64 = .ok (.aload_n 0, 1) := by decide +kernel
theorem dX7_padding_65 : decode cX7_padding 65 = .ok (.getfield 19, 3) := by decide +kernel
theorem dX7_padding_68 : decode cX7_padding 68 = .ok (.aload_n 0, 1) := by decide +kernel
theorem dX7_padding_69 : decode cX7_padding 69 = .ok (.getfield 10, 3) := by decide +kernel
theorem dX7_padding_72 : decode cX7_padding 72 = .ok (.invokevirtual 196, 3) := by decide +kernel
theorem dX7_padding_75 : decode cX7_padding 75 = .ok (.aload_n 0, 1) := by decide +kernel
theorem dX7_padding_76 : decode cX7_padding 76 = .ok (.getfield 19, 3) := by decide +kernel
theorem dX7_padding_79 : decode cX7_padding 79 = .ok (.iload_n 1, 1) := by decide +kernel
theorem dX7_padding_80 : decode cX7_padding 80 = .ok (.aload_n 0, 1) := by decide +kernel
theorem dX7_padding_81 : decode cX7_padding 81 = .ok (.getfield 10, 3) := by decide +kernel
theorem dX7_padding_84 : decode cX7_padding 84 = .ok (.getfield 101, 3) := by decide +kernel
theorem dX7_padding_87 : decode cX7_padding 87 = .ok (.iload_n 1, 1) := by decide +kernel
theorem dX7_padding_88 : decode cX7_padding 88 = .ok (.iaload, 1) := by decide +kernel
theorem dX7_padding_89 : decode cX7_padding 89 = .ok (.iload 4, 2) := by decide +kernel
theorem dX7_padding_91 : decode cX7_padding 91 = .ok (.iload 5, 2) := by decide +kernel
theorem dX7_padding_93 : decode cX7_padding 93 = .ok (.iadd, 1) := by decide +kernel
theorem dX7_padding_94 : decode cX7_padding 94 = .ok (.aload_n 0, 1) := by decide +kernel
theorem dX7_padding_95 : decode cX7_padding 95 = .ok (.getfield 10, 3) := by decide +kernel
theorem dX7_padding_98 : decode cX7_padding 98 = .ok (.getfield 107, 3) := by decide +kernel
theorem dX7_padding_101 : decode cX7_padding 101 = .ok (.iload_n 1, 1) := by decide +kernel
theorem dX7_padding_102 : decode cX7_padding 102 = .ok (.iaload, 1) := by decide +kernel
theorem dX7_padding_103 : decode cX7_padding 103 = .ok (.invokevirtual 134, 3) := by decide +kernel
theorem dX7_padding_106 : decode cX7_padding 106 = .ok (.aload_n 0, 1) := by decide +kernel
theorem dX7_padding_107 : decode cX7_padding 107 = .ok (.getfield 19, 3) := by decide +kernel
theorem dX7_padding_110 : decode cX7_padding 110 = .ok (.iload_n 3, 1) := by decide +kernel
theorem dX7_padding_111 : decode cX7_padding 111 = .ok (.invokevirtual 173, 3) := by decide +kernel
theorem dX7_padding_114 : decode cX7_padding 114 = .ok (.aload_n 0, 1) := by decide +kernel
theorem dX7_padding_115 : decode cX7_padding 115 = .ok (.getfield 19, 3) := by decide +kernel
theorem dX7_padding_118 : decode cX7_padding 118 = .ok (.iload_n 1, 1) := by decide +kernel
theorem dX7_padding_119 : decode cX7_padding 119 = .ok (.invokevirtual 110, 3) := by decide +kernel
theorem dX7_padding_122 : decode cX7_padding 122 = .ok (.aload_n 0, 1) := by decide +kernel
theorem dX7_padding_123 : decode cX7_padding 123 = .ok (.getfield 19, 3) := by decide +kernel
theorem dX7_padding_126 : decode cX7_padding 126 = .ok (.iload_n 2, 1) := by decide +kernel
theorem dX7_padding_127 : decode cX7_padding 127 = .ok (.invokevirtual 110, 3) := by decide +kernel
theorem dX7_padding_130 : decode cX7_padding 130 = .ok (.isub, 1) := by decide +kernel
theorem dX7_padding_131 : decode cX7_padding 131 = .ok (.invokestatic 200, 3) := by decide +kernel
theorem dX7_padding_134 : decode cX7_padding 134 = .ok (.iconst 1, 1) := by decide +kernel
theorem dX7_padding_135 : decode cX7_padding 135 = .ok (.if_icmp .ne 6, 3) := by decide +kernel
theorem dX7_padding_138 : decode cX7_padding 138 = .ok (.iload 5, 2) := by decide +kernel
theorem dX7_padding_140 : decode cX7_padding 140 = .ok (.ireturn, 1) := by decide +kernel
theorem dX7_padding_141 : decode cX7_padding 141 = .ok (.iinc 5 1, 3) := by decide +kernel
theorem dX7_padding_144 : decode cX7_padding 144 = .ok (.goto (-90), 3) := by decide +kernel
theorem dX7_padding_147 : decode cX7_padding 147 = .ok (.ldc 195, 2) := by decide +kernel
theorem dX7_padding_149 : decode cX7_padding 149 = .ok (.ireturn, 1) := by decide +kernel
theorem dX7_stays_0 : decode cX7_stays 0 = .ok (.iload_n 1, 1) := by decide +kernel
theorem dX7_stays_1 : decode cX7_stays 1 = .ok (.iconst 0, 1) := by decide +kernel
theorem dX7_stays_2 : decode cX7_stays 2 = .ok (.bipush 100, 2) := by decide +kernel
theorem dX7_stays_4 : decode cX7_stays 4 = .ok (.invokestatic 148, 3) := by decide +kernel
theorem dX7_stays_7 : decode cX7_stays 7 = .ok (.ifCond .ne 6, 3) := by decide +kernel
theorem dX7_stays_10 : decode cX7_stays 10 = .ok (.ldc 89, 2) := by decide +kernel
theorem dX7_stays_12 : decode cX7_stays 12 = .ok (.ireturn, 1) := by decide +kernel
theorem dX7_stays_13 : decode cX7_stays 13 = .ok (.aload_n 0, 1) := by decide +kernel
theorem dX7_stays_14 : decode cX7_stays 14 = .ok (.iload_n 1, 1) := by decide +kernel
theorem dX7_stays_15 : decode cX7_stays 15 = .ok (.invokevirtual 189, 3) := by decide +kernel
theorem dX7_stays_18 : decode cX7_stays 18 = .ok (.iconst 0, 1) := by decide +kernel
theorem dX7_stays_19 : decode cX7_stays 19 = .ok (.istore_n 2, 1) := by decide +kernel
theorem dX7_stays_20 : decode cX7_stays 20 = .ok (.iconst 0, 1) := by decide +kernel
theorem dX7_stays_21 : decode cX7_stays 21 = .ok (.istore_n 3, 1) := by decide +kernel
theorem dX7_stays_22 : decode cX7_stays 22 = .ok (.iload_n 3, 1) := by decide +kernel
theorem dX7_stays_23 : decode cX7_stays 23 = .ok (.aload_n 0, 1) := by decide +kernel
theorem dX7_stays_24 : decode cX7_stays 24 = .ok (.getfield 10, 3) := by decide +kernel
theorem dX7_stays_27 : decode cX7_stays 27 = .ok (.getfield 90, 3) := by decide +kernel
theorem dX7_stays_30 : decode cX7_stays 30 = .ok (.if_icmp .ge 44, 3) := by decide +kernel
theorem dX7_stays_33 : decode cX7_stays 33 = .ok (.aload_n 0, 1) := by decide +kernel
theorem dX7_stays_34 : decode cX7_stays 34 = .ok (.getfield 19, 3) := by decide +kernel
theorem dX7_stays_37 : decode cX7_stays 37 = .ok (.getfield 142, 3) := by decide +kernel
theorem dX7_stays_40 : decode cX7_stays 40 = .ok (.iload_n 3, 1) := by decide +kernel
theorem dX7_stays_41 : decode cX7_stays 41 = .ok (.iaload, 1) := by decide +kernel
theorem dX7_stays_42 : decode cX7_stays 42 = .ok (.aload_n 0, 1) := by decide +kernel
theorem dX7_stays_43 : decode cX7_stays 43 = .ok (.getfield 10, 3) := by decide +kernel
theorem dX7_stays_46 : decode cX7_stays 46 = .ok (.getfield 142, 3) := by decide +kernel
theorem dX7_stays_49 : decode cX7_stays 49 = .ok (.iload_n 3, 1) := by decide +kernel
theorem dX7_stays_50 : decode cX7_stays 50 = .ok (.iaload, 1) := by decide +kernel
theorem dX7_stays_51 : decode cX7_stays 51 = .ok (.if_icmp .ne 17, 3) := by decide +kernel
theorem dX7_stays_54 : decode cX7_stays 54 = .ok (.iload_n 2, 1) := by decide +kernel
theorem dX7_stays_55 : decode cX7_stays 55 = .ok (.iconst 1, 1) := by decide +kernel
theorem dX7_stays_56 : decode cX7_stays 56 = .ok (.aload_n 0, 1) := by decide +kernel
theorem dX7_stays_57 : decode cX7_stays 57 = .ok (.getfield 10, 3) := by decide +kernel
theorem dX7_stays_60 : decode cX7_stays 60 = .ok (.getfield 142, 3) := by decide +kernel
theorem dX7_stays_63 : decode cX7_stays 63 = .ok (.iload_n 3, 1) := by decide +kernel
theorem dX7_stays_64 : decode cX7_stays 64 = .ok (.iaload, 1) := by decide +kernel
theorem dX7_stays_65 : decode cX7_stays 65 = .ok (.ishl, 1) := by decide +kernel
theorem dX7_stays_66 : decode cX7_stays 66 = .ok (.ior, 1) := by decide +kernel
theorem dX7_stays_67 : decode cX7_stays 67 = .ok (.istore_n 2, 1) := by decide +kernel
theorem dX7_stays_68 : decode cX7_stays 68 = .ok (.iinc 3 1, 3) := by decide +kernel
theorem dX7_stays_71 : decode cX7_stays 71 = .ok (.goto (-49), 3) := by decide +kernel
theorem dX7_stays_74 : decode cX7_stays 74 = .ok (.iload_n 2, 1) := by decide +kernel
theorem dX7_stays_75 : decode cX7_stays 75 = .ok (.ireturn, 1) := by decide +kernel
theorem dX7_bundle_0 : decode cX7_bundle 0 = .ok (.iload_n 1, 1) := by decide +kernel
theorem dX7_bundle_1 : decode cX7_bundle 1 = .ok (.invokestatic 86, 3) := by decide +kernel
theorem dX7_bundle_4 : decode cX7_bundle 4 = .ok (.ifCond .eq 13, 3) := by decide +kernel
theorem dX7_bundle_7 : decode cX7_bundle 7 = .ok (.iload_n 2, 1) := by decide +kernel
theorem dX7_bundle_8 : decode cX7_bundle 8 = .ok (.iconst 0, 1) := by decide +kernel
theorem dX7_bundle_9 : decode cX7_bundle 9 = .ok (.bipush 100, 2) := by decide +kernel
theorem dX7_bundle_11 : decode cX7_bundle 11 = .ok (.invokestatic 148, 3) := by decide +kernel
theorem dX7_bundle_14 : decode cX7_bundle 14 = .ok (.ifCond .ne 6, 3) := by decide +kernel
theorem dX7_bundle_17 : decode cX7_bundle 17 = .ok (.ldc 89, 2) := by decide +kernel
theorem dX7_bundle_19 : decode cX7_bundle 19 = .ok (.ireturn, 1) := by decide +kernel
theorem dX7_bundle_20 : decode cX7_bundle 20 = .ok (.aload_n 0, 1) := by decide +kernel
theorem dX7_bundle_21 : decode cX7_bundle 21 = .ok (.iload_n 2, 1) := by decide +kernel
theorem dX7_bundle_22 : decode cX7_bundle 22 = .ok (.invokevirtual 189, 3) := by decide +kernel
theorem dX7_bundle_25 : decode cX7_bundle 25 = .ok (.aload_n 0, 1) := by decide +kernel
theorem dX7_bundle_26 : decode cX7_bundle 26 = .ok (.getfield 19, 3) := by decide +kernel
theorem dX7_bundle_29 : decode cX7_bundle 29 = .ok (.iload_n 1, 1) := by decide +kernel
theorem dX7_bundle_30 : decode cX7_bundle 30 = .ok (.invokevirtual 203, 3) := by decide +kernel
theorem dX7_bundle_33 : decode cX7_bundle 33 = .ok (.iconst 1, 1) := by decide +kernel
theorem dX7_bundle_34 : decode cX7_bundle 34 = .ok (.if_icmp .gt 7, 3) := by decide +kernel
theorem dX7_bundle_37 : decode cX7_bundle 37 = .ok (.iconst 1, 1) := by decide +kernel
theorem dX7_bundle_38 : decode cX7_bundle 38 = .ok (.goto 4, 3) := by decide +kernel
theorem dX7_bundle_41 : decode cX7_bundle 41 = .ok (.iconst 0, 1) := by decide +kernel
theorem dX7_bundle_42 : decode cX7_bundle 42 = .ok (.ireturn, 1) := by decide +kernel
theorem dX7_halts_0 : decode cX7_halts 0 = .ok (.iload_n 1, 1) := by decide +kernel
theorem dX7_halts_1 : decode cX7_halts 1 = .ok (.iconst 0, 1) := by decide +kernel
theorem dX7_halts_2 : decode cX7_halts 2 = .ok (.bipush 40, 2) := by decide +kernel
theorem dX7_halts_4 : decode cX7_halts 4 = .ok (.invokestatic 148, 3) := by decide +kernel
theorem dX7_halts_7 : decode cX7_halts 7 = .ok (.ifCond .eq 12, 3) := by decide +kernel
theorem dX7_halts_10 : decode cX7_halts 10 = .ok (.iload_n 2, 1) := by decide +kernel
theorem dX7_halts_11 : decode cX7_halts 11 = .ok (.iconst 0, 1) := by decide +kernel
theorem dX7_halts_12 : decode cX7_halts 12 = .ok (.iconst 1, 1) := by decide +kernel
theorem dX7_halts_13 : decode cX7_halts 13 = .ok (.invokestatic 148, 3) := by decide +kernel
theorem dX7_halts_16 : decode cX7_halts 16 = .ok (.ifCond .ne 6, 3) := by decide +kernel
theorem dX7_halts_19 : decode cX7_halts 19 = .ok (.ldc 89, 2) := by decide +kernel
theorem dX7_halts_21 : decode cX7_halts 21 = .ok (.ireturn, 1) := by decide +kernel
theorem dX7_halts_22 : decode cX7_halts 22 = .ok (.iconst 0, 1) := by decide +kernel
theorem dX7_halts_23 : decode cX7_halts 23 = .ok (.istore_n 3, 1) := by decide +kernel
theorem dX7_halts_24 : decode cX7_halts 24 = .ok (.iconst 0, 1) := by decide +kernel
theorem dX7_halts_25 : decode cX7_halts 25 = .ok (.istore 4, 2) := by decide +kernel
theorem dX7_halts_27 : decode cX7_halts 27 = .ok (.aload_n 0, 1) := by decide +kernel
theorem dX7_halts_28 : decode cX7_halts 28 = .ok (.iconst 0, 1) := by decide +kernel
theorem dX7_halts_29 : decode cX7_halts 29 = .ok (.invokevirtual 189, 3) := by decide +kernel
theorem dX7_halts_32 : decode cX7_halts 32 = .ok (.iconst 0, 1) := by decide +kernel
theorem dX7_halts_33 : decode cX7_halts 33 = .ok (.istore 5, 2) := by decide +kernel
theorem dX7_halts_35 : decode cX7_halts 35 = .ok (.iload 5, 2) := by decide +kernel
theorem dX7_halts_37 : decode cX7_halts 37 = .ok (.iload_n 1, 1) := by decide +kernel
theorem dX7_halts_38 : decode cX7_halts 38 = .ok (.if_icmp .gt 73, 3) := by decide +kernel
theorem dX7_halts_41 : decode cX7_halts 41 = .ok (.aload_n 0, 1) := by decide +kernel
theorem dX7_halts_42 : decode cX7_halts 42 = .ok (.getfield 22, 3) := by decide +kernel
theorem dX7_halts_45 : decode cX7_halts 45 = .ok (.aload_n 0, 1) := by decide +kernel
theorem dX7_halts_46 : decode cX7_halts 46 = .ok (.getfield 19, 3) := by decide +kernel
theorem dX7_halts_49 : decode cX7_halts 49 = .ok (.invokevirtual 196, 3) := by decide +kernel
theorem dX7_halts_52 : decode cX7_halts 52 = .ok (.aload_n 0, 1) := by decide +kernel
theorem dX7_halts_53 : decode cX7_halts 53 = .ok (.getfield 22, 3) := by decide +kernel
theorem dX7_halts_56 : decode cX7_halts 56 = .ok (.invokevirtual 145, 3) := by decide +kernel
theorem dX7_halts_59 : decode cX7_halts 59 = .ok (.aload_n 0, 1) := by decide +kernel
theorem dX7_halts_60 : decode cX7_halts 60 = .ok (.getfield 22, 3) := by decide +kernel
theorem dX7_halts_63 : decode cX7_halts 63 = .ok (.iload_n 1, 1) := by decide +kernel
theorem dX7_halts_64 : decode cX7_halts 64 = .ok (.iload 5, 2) := by decide +kernel
theorem dX7_halts_66 : decode cX7_halts 66 = .ok (.isub, 1) := by decide +kernel
theorem dX7_halts_67 : decode cX7_halts 67 = .ok (.invokevirtual 173, 3) := by decide +kernel
theorem dX7_halts_70 : decode cX7_halts 70 = .ok (.aload_n 0, 1) := by decide +kernel
theorem dX7_halts_71 : decode cX7_halts 71 = .ok (.getfield 22, 3) := by decide +kernel
theorem dX7_halts_74 : decode cX7_halts 74 = .ok (.invokevirtual 177, 3) := by decide +kernel
theorem dX7_halts_77 : decode cX7_halts 77 = .ok (.istore 6, 2) := by decide +kernel
theorem dX7_halts_79 : decode cX7_halts 79 = .ok (.iload 5, 2) := by decide +kernel
theorem dX7_halts_81 : decode cX7_halts 81 = .ok (.ifCond .eq 10, 3) := by decide +kernel
theorem dX7_halts_84 : decode cX7_halts 84 = .ok (.iload 6, 2) := by decide +kernel
theorem dX7_halts_86 : decode cX7_halts 86 = .ok (.iload 4, 2) := by decide +kernel
theorem dX7_halts_88 : decode cX7_halts 88 = .ok (.if_icmp .ge 10, 3) := by decide +kernel
theorem dX7_halts_91 : decode cX7_halts 91 = .ok (.iload 5, 2) := by decide +kernel
theorem dX7_halts_93 : decode cX7_halts 93 = .ok (.istore_n 3, 1) := by decide +kernel
theorem dX7_halts_94 : decode cX7_halts 94 = .ok (.iload 6, 2) := by decide +kernel
theorem dX7_halts_96 : decode cX7_halts 96 = .ok (.istore 4, 2) := by decide +kernel
theorem dX7_halts_98 : decode cX7_halts 98 = .ok (.aload_n 0, 1) := by decide +kernel
theorem dX7_halts_99 : decode cX7_halts 99 = .ok (.getfield 19, 3) := by decide +kernel
theorem dX7_halts_102 : decode cX7_halts 102 = .ok (.invokevirtual 192, 3) := by decide +kernel
theorem dX7_halts_105 : decode cX7_halts 105 = .ok (.iinc 5 1, 3) := by decide +kernel
theorem dX7_halts_108 : decode cX7_halts 108 = .ok (.goto (-73), 3) := by decide +kernel
theorem dX7_halts_111 : decode cX7_halts 111 = .ok (.iload_n 2, 1) := by decide +kernel
theorem dX7_halts_112 : decode cX7_halts 112 = .ok (.ifCond .ne 7, 3) := by decide +kernel
theorem dX7_halts_115 : decode cX7_halts 115 = .ok (.iload_n 3, 1) := by decide +kernel
theorem dX7_halts_116 : decode cX7_halts 116 = .ok (.goto 5, 3) := by decide +kernel
theorem dX7_halts_119 : decode cX7_halts 119 = .ok (.iload 4, 2) := by decide +kernel
theorem dX7_halts_121 : decode cX7_halts 121 = .ok (.ireturn, 1) := by decide +kernel
theorem dX7_miles_0 : decode cX7_miles 0 = .ok (.iload_n 1, 1) := by decide +kernel
theorem dX7_miles_1 : decode cX7_miles 1 = .ok (.invokestatic 206, 3) := by decide +kernel
theorem dX7_miles_4 : decode cX7_miles 4 = .ok (.ifCond .eq 12, 3) := by decide +kernel
theorem dX7_miles_7 : decode cX7_miles 7 = .ok (.iload_n 2, 1) := by decide +kernel
theorem dX7_miles_8 : decode cX7_miles 8 = .ok (.iconst 0, 1) := by decide +kernel
theorem dX7_miles_9 : decode cX7_miles 9 = .ok (.iconst 1, 1) := by decide +kernel
theorem dX7_miles_10 : decode cX7_miles 10 = .ok (.invokestatic 148, 3) := by decide +kernel
theorem dX7_miles_13 : decode cX7_miles 13 = .ok (.ifCond .ne 6, 3) := by decide +kernel
theorem dX7_miles_16 : decode cX7_miles 16 = .ok (.ldc 89, 2) := by decide +kernel
theorem dX7_miles_18 : decode cX7_miles 18 = .ok (.ireturn, 1) := by decide +kernel
theorem dX7_miles_19 : decode cX7_miles 19 = .ok (.aload_n 0, 1) := by decide +kernel
theorem dX7_miles_20 : decode cX7_miles 20 = .ok (.getfield 60, 3) := by decide +kernel
theorem dX7_miles_23 : decode cX7_miles 23 = .ok (.iload_n 1, 1) := by decide +kernel
theorem dX7_miles_24 : decode cX7_miles 24 = .ok (.aaload, 1) := by decide +kernel
theorem dX7_miles_25 : decode cX7_miles 25 = .ok (.invokevirtual 209, 3) := by decide +kernel
theorem dX7_miles_28 : decode cX7_miles 28 = .ok (.ifCond .eq 6, 3) := by decide +kernel
theorem dX7_miles_31 : decode cX7_miles 31 = .ok (.ldc 213, 2) := by decide +kernel
theorem dX7_miles_33 : decode cX7_miles 33 = .ok (.ireturn, 1) := by decide +kernel
theorem dX7_miles_34 : decode cX7_miles 34 = .ok (.iconst 0, 1) := by decide +kernel
theorem dX7_miles_35 : decode cX7_miles 35 = .ok (.istore_n 3, 1) := by decide +kernel
theorem dX7_miles_36 : decode cX7_miles 36 = .ok (.iconst 0, 1) := by decide +kernel
theorem dX7_miles_37 : decode cX7_miles 37 = .ok (.istore 4, 2) := by decide +kernel
theorem dX7_miles_39 : decode cX7_miles 39 = .ok (.aload_n 0, 1) := by decide +kernel
theorem dX7_miles_40 : decode cX7_miles 40 = .ok (.iconst 0, 1) := by decide +kernel
theorem dX7_miles_41 : decode cX7_miles 41 = .ok (.invokevirtual 189, 3) := by decide +kernel
theorem dX7_miles_44 : decode cX7_miles 44 = .ok (.iconst 0, 1) := by decide +kernel
theorem dX7_miles_45 : decode cX7_miles 45 = .ok (.istore 5, 2) := by decide +kernel
theorem dX7_miles_47 : decode cX7_miles 47 = .ok (.iload 5, 2) := by decide +kernel
theorem dX7_miles_49 : decode cX7_miles 49 = .ok (.bipush 60, 2) := by decide +kernel
theorem dX7_miles_51 : decode cX7_miles 51 = .ok (.if_icmp .gt 50, 3) := by decide +kernel
theorem dX7_miles_54 : decode cX7_miles 54 = .ok (.aload_n 0, 1) := by decide +kernel
theorem dX7_miles_55 : decode cX7_miles 55 = .ok (.getfield 19, 3) := by decide +kernel
theorem dX7_miles_58 : decode cX7_miles 58 = .ok (.aload_n 0, 1) := by decide +kernel
theorem dX7_miles_59 : decode cX7_miles 59 = .ok (.getfield 60, 3) := by decide +kernel
theorem dX7_miles_62 : decode cX7_miles 62 = .ok (.iload_n 1, 1) := by decide +kernel
theorem dX7_miles_63 : decode cX7_miles 63 = .ok (.aaload, 1) := by decide +kernel
theorem dX7_miles_64 : decode cX7_miles 64 = .ok (.invokestatic 214, 3) := by decide +kernel
theorem dX7_miles_67 : decode cX7_miles 67 = .ok (.istore 6, 2) := by decide +kernel
theorem dX7_miles_69 : decode cX7_miles 69 = .ok (.iload 5, 2) := by decide +kernel
theorem dX7_miles_71 : decode cX7_miles 71 = .ok (.ifCond .eq 10, 3) := by decide +kernel
theorem dX7_miles_74 : decode cX7_miles 74 = .ok (.iload 6, 2) := by decide +kernel
theorem dX7_miles_76 : decode cX7_miles 76 = .ok (.iload 4, 2) := by decide +kernel
theorem dX7_miles_78 : decode cX7_miles 78 = .ok (.if_icmp .ge 10, 3) := by decide +kernel
theorem dX7_miles_81 : decode cX7_miles 81 = .ok (.iload 5, 2) := by decide +kernel
theorem dX7_miles_83 : decode cX7_miles 83 = .ok (.istore_n 3, 1) := by decide +kernel
theorem dX7_miles_84 : decode cX7_miles 84 = .ok (.iload 6, 2) := by decide +kernel
theorem dX7_miles_86 : decode cX7_miles 86 = .ok (.istore 4, 2) := by decide +kernel
theorem dX7_miles_88 : decode cX7_miles 88 = .ok (.aload_n 0, 1) := by decide +kernel
theorem dX7_miles_89 : decode cX7_miles 89 = .ok (.getfield 19, 3) := by decide +kernel
theorem dX7_miles_92 : decode cX7_miles 92 = .ok (.invokevirtual 192, 3) := by decide +kernel
theorem dX7_miles_95 : decode cX7_miles 95 = .ok (.iinc 5 1, 3) := by decide +kernel
theorem dX7_miles_98 : decode cX7_miles 98 = .ok (.goto (-51), 3) := by decide +kernel
theorem dX7_miles_101 : decode cX7_miles 101 = .ok (.iload_n 2, 1) := by decide +kernel
theorem dX7_miles_102 : decode cX7_miles 102 = .ok (.ifCond .ne 7, 3) := by decide +kernel
theorem dX7_miles_105 : decode cX7_miles 105 = .ok (.iload_n 3, 1) := by decide +kernel
theorem dX7_miles_106 : decode cX7_miles 106 = .ok (.goto 5, 3) := by decide +kernel
theorem dX7_miles_109 : decode cX7_miles 109 = .ok (.iload 4, 2) := by decide +kernel
theorem dX7_miles_111 : decode cX7_miles 111 = .ok (.ireturn, 1) := by decide +kernel
theorem dX7_fee_0 : decode cX7_fee 0 = .ok (.aload_n 0, 1) := by decide +kernel
theorem dX7_fee_1 : decode cX7_fee 1 = .ok (.getfield 10, 3) := by decide +kernel
theorem dX7_fee_4 : decode cX7_fee 4 = .ok (.invokevirtual 177, 3) := by decide +kernel
theorem dX7_fee_7 : decode cX7_fee 7 = .ok (.istore_n 1, 1) := by decide +kernel
theorem dX7_fee_8 : decode cX7_fee 8 = .ok (.aload_n 0, 1) := by decide +kernel
theorem dX7_fee_9 : decode cX7_fee 9 = .ok (.iconst 1, 1) := by decide +kernel
theorem dX7_fee_10 : decode cX7_fee 10 = .ok (.invokevirtual 218, 3) := by decide +kernel
theorem dX7_fee_13 : decode cX7_fee 13 = .ok (.astore_n 2, 1) := by decide +kernel
theorem dX7_fee_14 : decode cX7_fee 14 = .ok (.aload_n 2, 1) := by decide +kernel
theorem dX7_fee_15 : decode cX7_fee 15 = .ok (.ifnonnull 7, 3) := by decide +kernel
theorem dX7_fee_18 : decode cX7_fee 18 = .ok (.iload_n 1, 1) := by decide +kernel
theorem dX7_fee_19 : decode cX7_fee 19 = .ok (.goto 16, 3) := by decide +kernel
theorem dX7_fee_22 : decode cX7_fee 22 = .ok (.aload_n 2, 1) := by decide +kernel
theorem dX7_fee_23 : decode cX7_fee 23 = .ok (.iload_n 1, 1) := by decide +kernel
theorem dX7_fee_24 : decode cX7_fee 24 = .ok (.aload_n 0, 1) := by decide +kernel
theorem dX7_fee_25 : decode cX7_fee 25 = .ok (.getfield 10, 3) := by decide +kernel
theorem dX7_fee_28 : decode cX7_fee 28 = .ok (.getfield 170, 3) := by decide +kernel
theorem dX7_fee_31 : decode cX7_fee 31 = .ok (.iconst 0, 1) := by decide +kernel
theorem dX7_fee_32 : decode cX7_fee 32 = .ok (.invokevirtual 222, 3) := by decide +kernel
theorem dX7_fee_35 : decode cX7_fee 35 = .ok (.ireturn, 1) := by decide +kernel
theorem dX7_fine_0 : decode cX7_fine 0 = .ok (.aload_n 0, 1) := by decide +kernel
theorem dX7_fine_1 : decode cX7_fine 1 = .ok (.getfield 10, 3) := by decide +kernel
theorem dX7_fine_4 : decode cX7_fine 4 = .ok (.iload_n 1, 1) := by decide +kernel
theorem dX7_fine_5 : decode cX7_fine 5 = .ok (.invokevirtual 98, 3) := by decide +kernel
theorem dX7_fine_8 : decode cX7_fine 8 = .ok (.ifCond .ne 6, 3) := by decide +kernel
theorem dX7_fine_11 : decode cX7_fine 11 = .ok (.ldc 89, 2) := by decide +kernel
theorem dX7_fine_13 : decode cX7_fine 13 = .ok (.ireturn, 1) := by decide +kernel
theorem dX7_fine_14 : decode cX7_fine 14 = .ok (.aload_n 0, 1) := by decide +kernel
theorem dX7_fine_15 : decode cX7_fine 15 = .ok (.getfield 10, 3) := by decide +kernel
theorem dX7_fine_18 : decode cX7_fine 18 = .ok (.iload_n 1, 1) := by decide +kernel
theorem dX7_fine_19 : decode cX7_fine 19 = .ok (.invokevirtual 110, 3) := by decide +kernel
theorem dX7_fine_22 : decode cX7_fine 22 = .ok (.istore_n 2, 1) := by decide +kernel
theorem dX7_fine_23 : decode cX7_fine 23 = .ok (.aload_n 0, 1) := by decide +kernel
theorem dX7_fine_24 : decode cX7_fine 24 = .ok (.iconst 2, 1) := by decide +kernel
theorem dX7_fine_25 : decode cX7_fine 25 = .ok (.invokevirtual 218, 3) := by decide +kernel
theorem dX7_fine_28 : decode cX7_fine 28 = .ok (.astore_n 3, 1) := by decide +kernel
theorem dX7_fine_29 : decode cX7_fine 29 = .ok (.aload_n 3, 1) := by decide +kernel
theorem dX7_fine_30 : decode cX7_fine 30 = .ok (.ifnonnull 7, 3) := by decide +kernel
theorem dX7_fine_33 : decode cX7_fine 33 = .ok (.iload_n 2, 1) := by decide +kernel
theorem dX7_fine_34 : decode cX7_fine 34 = .ok (.goto 18, 3) := by decide +kernel
theorem dX7_fine_37 : decode cX7_fine 37 = .ok (.aload_n 3, 1) := by decide +kernel
theorem dX7_fine_38 : decode cX7_fine 38 = .ok (.aload_n 0, 1) := by decide +kernel
theorem dX7_fine_39 : decode cX7_fine 39 = .ok (.getfield 10, 3) := by decide +kernel
theorem dX7_fine_42 : decode cX7_fine 42 = .ok (.getfield 104, 3) := by decide +kernel
theorem dX7_fine_45 : decode cX7_fine 45 = .ok (.iload_n 1, 1) := by decide +kernel
theorem dX7_fine_46 : decode cX7_fine 46 = .ok (.iaload, 1) := by decide +kernel
theorem dX7_fine_47 : decode cX7_fine 47 = .ok (.iload_n 2, 1) := by decide +kernel
theorem dX7_fine_48 : decode cX7_fine 48 = .ok (.iconst 0, 1) := by decide +kernel
theorem dX7_fine_49 : decode cX7_fine 49 = .ok (.invokevirtual 222, 3) := by decide +kernel
theorem dX7_fine_52 : decode cX7_fine 52 = .ok (.ireturn, 1) := by decide +kernel
theorem dX7_feed_0 : decode cX7_feed 0 = .ok (.aload_n 0, 1) := by decide +kernel
theorem dX7_feed_1 : decode cX7_feed 1 = .ok (.getfield 45, 3) := by decide +kernel
theorem dX7_feed_4 : decode cX7_feed 4 = .ok (.invokevirtual 225, 3) := by decide +kernel
theorem dX7_feed_7 : decode cX7_feed 7 = .ok (.ifCond .ne 6, 3) := by decide +kernel
theorem dX7_feed_10 : decode cX7_feed 10 = .ok (.ldc 93, 2) := by decide +kernel
theorem dX7_feed_12 : decode cX7_feed 12 = .ok (.ireturn, 1) := by decide +kernel
theorem dX7_feed_13 : decode cX7_feed 13 = .ok (.aload_n 0, 1) := by decide +kernel
theorem dX7_feed_14 : decode cX7_feed 14 = .ok (.getfield 45, 3) := by decide +kernel
theorem dX7_feed_17 : decode cX7_feed 17 = .ok (.iload_n 1, 1) := by decide +kernel
theorem dX7_feed_18 : decode cX7_feed 18 = .ok (.invokevirtual 228, 3) := by decide +kernel
theorem dX7_feed_21 : decode cX7_feed 21 = .ok (.aload_n 0, 1) := by decide +kernel
theorem dX7_feed_22 : decode cX7_feed 22 = .ok (.getfield 45, 3) := by decide +kernel
theorem dX7_feed_25 : decode cX7_feed 25 = .ok (.iload_n 2, 1) := by decide +kernel
theorem dX7_feed_26 : decode cX7_feed 26 = .ok (.invokevirtual 228, 3) := by decide +kernel
theorem dX7_feed_29 : decode cX7_feed 29 = .ok (.aload_n 0, 1) := by decide +kernel
theorem dX7_feed_30 : decode cX7_feed 30 = .ok (.getfield 45, 3) := by decide +kernel
theorem dX7_feed_33 : decode cX7_feed 33 = .ok (.iload_n 3, 1) := by decide +kernel
theorem dX7_feed_34 : decode cX7_feed 34 = .ok (.invokevirtual 228, 3) := by decide +kernel
theorem dX7_feed_37 : decode cX7_feed 37 = .ok (.aload_n 0, 1) := by decide +kernel
theorem dX7_feed_38 : decode cX7_feed 38 = .ok (.getfield 45, 3) := by decide +kernel
theorem dX7_feed_41 : decode cX7_feed 41 = .ok (.getfield 231, 3) := by decide +kernel
theorem dX7_feed_44 : decode cX7_feed 44 = .ok (.ireturn, 1) := by decide +kernel
theorem dX7_trim_0 : decode cX7_trim 0 = .ok (.iload_n 1, 1) := by decide +kernel
theorem dX7_trim_1 : decode cX7_trim 1 = .ok (.iconst 0, 1) := by decide +kernel
theorem dX7_trim_2 : decode cX7_trim 2 = .ok (.aload_n 0, 1) := by decide +kernel
theorem dX7_trim_3 : decode cX7_trim 3 = .ok (.getfield 45, 3) := by decide +kernel
theorem dX7_trim_6 : decode cX7_trim 6 = .ok (.getfield 231, 3) := by decide +kernel
theorem dX7_trim_9 : decode cX7_trim 9 = .ok (.invokestatic 148, 3) := by decide +kernel
theorem dX7_trim_12 : decode cX7_trim 12 = .ok (.ifCond .ne 6, 3) := by decide +kernel
theorem dX7_trim_15 : decode cX7_trim 15 = .ok (.ldc 89, 2) := by decide +kernel
theorem dX7_trim_17 : decode cX7_trim 17 = .ok (.ireturn, 1) := by decide +kernel
theorem dX7_trim_18 : decode cX7_trim 18 = .ok (.aload_n 0, 1) := by decide +kernel
theorem dX7_trim_19 : decode cX7_trim 19 = .ok (.getfield 45, 3) := by decide +kernel
theorem dX7_trim_22 : decode cX7_trim 22 = .ok (.iload_n 1, 1) := by decide +kernel
theorem dX7_trim_23 : decode cX7_trim 23 = .ok (.putfield 231, 3) := by decide +kernel
theorem dX7_trim_26 : decode cX7_trim 26 = .ok (.iload_n 1, 1) := by decide +kernel
theorem dX7_trim_27 : decode cX7_trim 27 = .ok (.ireturn, 1) := by decide +kernel
theorem dX7_text_0 : decode cX7_text 0 = .ok (.aload_n 0, 1) := by decide +kernel
theorem dX7_text_1 : decode cX7_text 1 = .ok (.getfield 54, 3) := by decide +kernel
theorem dX7_text_4 : decode cX7_text 4 = .ok (.invokevirtual 234, 3) := by decide +kernel
theorem dX7_text_7 : decode cX7_text 7 = .ok (.istore_n 1, 1) := by decide +kernel
theorem dX7_text_8 : decode cX7_text 8 = .ok (.aload_n 0, 1) := by decide +kernel
theorem dX7_text_9 : decode cX7_text 9 = .ok (.getfield 45, 3) := by decide +kernel
theorem dX7_text_12 : decode cX7_text 12 = .ok (.getfield 237, 3) := by decide +kernel
theorem dX7_text_15 : decode cX7_text 15 = .ok (.istore_n 2, 1) := by decide +kernel
theorem dX7_text_16 : decode cX7_text 16 = .ok (.aload_n 0, 1) := by decide +kernel
theorem dX7_text_17 : decode cX7_text 17 = .ok (.getfield 45, 3) := by decide +kernel
theorem dX7_text_20 : decode cX7_text 20 = .ok (.iconst 0, 1) := by decide +kernel
theorem dX7_text_21 : decode cX7_text 21 = .ok (.putfield 231, 3) := by decide +kernel
theorem dX7_text_24 : decode cX7_text 24 = .ok (.iload_n 1, 1) := by decide +kernel
theorem dX7_text_25 : decode cX7_text 25 = .ok (.ifCond .ne 8, 3) := by decide +kernel
theorem dX7_text_28 : decode cX7_text 28 = .ok (.bipush (-100), 2) := by decide +kernel
theorem dX7_text_30 : decode cX7_text 30 = .ok (.iload_n 2, 1) := by decide +kernel
theorem dX7_text_31 : decode cX7_text 31 = .ok (.isub, 1) := by decide +kernel
theorem dX7_text_32 : decode cX7_text 32 = .ok (.ireturn, 1) := by decide +kernel
theorem dX7_text_33 : decode cX7_text 33 = .ok (.aload_n 0, 1) := by decide +kernel
theorem dX7_text_34 : decode cX7_text 34 = .ok (.getfield 35, 3) := by decide +kernel
theorem dX7_text_37 : decode cX7_text 37 = .ok (.bipush 14, 2) := by decide +kernel
theorem dX7_text_39 : decode cX7_text 39 = .ok (.if_icmp .ne 6, 3) := by decide +kernel
theorem dX7_text_42 : decode cX7_text 42 = .ok (.ldc 93, 2) := by decide +kernel
theorem dX7_text_44 : decode cX7_text 44 = .ok (.ireturn, 1) := by decide +kernel
theorem dX7_text_45 : decode cX7_text 45 = .ok (.aload_n 0, 1) := by decide +kernel
theorem dX7_text_46 : decode cX7_text 46 = .ok (.getfield 54, 3) := by decide +kernel
theorem dX7_text_49 : decode cX7_text 49 = .ok (.invokevirtual 240, 3) := by decide +kernel
theorem dX7_text_52 : decode cX7_text 52 = .ok (.astore_n 3, 1) := by decide +kernel
theorem dX7_text_53 : decode cX7_text 53 = .ok (.aload_n 0, 1) := by decide +kernel
theorem dX7_text_54 : decode cX7_text 54 = .ok (.getfield 31, 3) := by decide +kernel
theorem dX7_text_57 : decode cX7_text 57 = .ok (.aload_n 0, 1) := by decide +kernel
