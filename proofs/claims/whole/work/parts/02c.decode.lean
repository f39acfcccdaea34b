theorem dX7_text_58 : decode cX7_text 58 = .ok (.getfield 35, 3) := by decide +kernel
theorem dX7_text_61 : decode cX7_text 61 = .ok (.aload_n 3, 1) := by decide +kernel
theorem dX7_text_62 : decode cX7_text 62 = .ok (.aastore, 1) := by decide +kernel
theorem dX7_text_63 : decode cX7_text 63 = .ok (.aload_n 0, 1) := by decide +kernel
theorem dX7_text_64 : decode cX7_text 64 = .ok (.dup, 1) := by decide +kernel
theorem dX7_text_65 : decode cX7_text 65 = .ok (.getfield 35, 3) := by decide +kernel
theorem dX7_text_68 : decode cX7_text 68 = .ok (.iconst 1, 1) := by decide +kernel
theorem dX7_text_69 : decode cX7_text 69 = .ok (.iadd, 1) := by decide +kernel
theorem dX7_text_70 : decode cX7_text 70 = .ok (.putfield 35, 3) := by decide +kernel
theorem dX7_text_73 : decode cX7_text 73 = .ok (.aload_n 3, 1) := by decide +kernel
theorem dX7_text_74 : decode cX7_text 74 = .ok (.getfield 244, 3) := by decide +kernel
theorem dX7_text_77 : decode cX7_text 77 = .ok (.ifCond .ne 11, 3) := by decide +kernel
theorem dX7_text_80 : decode cX7_text 80 = .ok (.aload_n 0, 1) := by decide +kernel
theorem dX7_text_81 : decode cX7_text 81 = .ok (.getfield 10, 3) := by decide +kernel
theorem dX7_text_84 : decode cX7_text 84 = .ok (.aload_n 3, 1) := by decide +kernel
theorem dX7_text_85 : decode cX7_text 85 = .ok (.invokevirtual 247, 3) := by decide +kernel
theorem dX7_text_88 : decode cX7_text 88 = .ok (.aload_n 0, 1) := by decide +kernel
theorem dX7_text_89 : decode cX7_text 89 = .ok (.getfield 35, 3) := by decide +kernel
theorem dX7_text_92 : decode cX7_text 92 = .ok (.iconst 1, 1) := by decide +kernel
theorem dX7_text_93 : decode cX7_text 93 = .ok (.isub, 1) := by decide +kernel
theorem dX7_text_94 : decode cX7_text 94 = .ok (.ireturn, 1) := by decide +kernel
theorem dX7_textTold_0 : decode cX7_textTold 0 = .ok (.iload_n 1, 1) := by decide +kernel
theorem dX7_textTold_1 : decode cX7_textTold 1 = .ok (.iconst 0, 1) := by decide +kernel
theorem dX7_textTold_2 : decode cX7_textTold 2 = .ok (.aload_n 0, 1) := by decide +kernel
theorem dX7_textTold_3 : decode cX7_textTold 3 = .ok (.getfield 35, 3) := by decide +kernel
theorem dX7_textTold_6 : decode cX7_textTold 6 = .ok (.iconst 1, 1) := by decide +kernel
theorem dX7_textTold_7 : decode cX7_textTold 7 = .ok (.isub, 1) := by decide +kernel
theorem dX7_textTold_8 : decode cX7_textTold 8 = .ok (.invokestatic 148, 3) := by decide +kernel
theorem dX7_textTold_11 : decode cX7_textTold 11 = .ok (.ifCond .eq 12, 3) := by decide +kernel
theorem dX7_textTold_14 : decode cX7_textTold 14 = .ok (.iload_n 2, 1) := by decide +kernel
theorem dX7_textTold_15 : decode cX7_textTold 15 = .ok (.iconst 0, 1) := by decide +kernel
theorem dX7_textTold_16 : decode cX7_textTold 16 = .ok (.iconst 1, 1) := by decide +kernel
theorem dX7_textTold_17 : decode cX7_textTold 17 = .ok (.invokestatic 148, 3) := by decide +kernel
theorem dX7_textTold_20 : decode cX7_textTold 20 = .ok (.ifCond .ne 6, 3) := by decide +kernel
theorem dX7_textTold_23 : decode cX7_textTold 23 = .ok (.ldc 89, 2) := by decide +kernel
theorem dX7_textTold_25 : decode cX7_textTold 25 = .ok (.ireturn, 1) := by decide +kernel
theorem dX7_textTold_26 : decode cX7_textTold 26 = .ok (.aload_n 0, 1) := by decide +kernel
theorem dX7_textTold_27 : decode cX7_textTold 27 = .ok (.getfield 31, 3) := by decide +kernel
theorem dX7_textTold_30 : decode cX7_textTold 30 = .ok (.iload_n 1, 1) := by decide +kernel
theorem dX7_textTold_31 : decode cX7_textTold 31 = .ok (.aaload, 1) := by decide +kernel
theorem dX7_textTold_32 : decode cX7_textTold 32 = .ok (.astore_n 3, 1) := by decide +kernel
theorem dX7_textTold_33 : decode cX7_textTold 33 = .ok (.aload_n 3, 1) := by decide +kernel
theorem dX7_textTold_34 : decode cX7_textTold 34 = .ok (.ifnonnull 6, 3) := by decide +kernel
theorem dX7_textTold_37 : decode cX7_textTold 37 = .ok (.ldc 89, 2) := by decide +kernel
theorem dX7_textTold_39 : decode cX7_textTold 39 = .ok (.ireturn, 1) := by decide +kernel
theorem dX7_textTold_40 : decode cX7_textTold 40 = .ok (.iload_n 2, 1) := by decide +kernel
theorem dX7_textTold_41 : decode cX7_textTold 41 = .ok (.ifCond .ne 10, 3) := by decide +kernel
theorem dX7_textTold_44 : decode cX7_textTold 44 = .ok (.aload_n 3, 1) := by decide +kernel
theorem dX7_textTold_45 : decode cX7_textTold 45 = .ok (.getfield 244, 3) := by decide +kernel
theorem dX7_textTold_48 : decode cX7_textTold 48 = .ok (.goto 7, 3) := by decide +kernel
theorem dX7_textTold_51 : decode cX7_textTold 51 = .ok (.aload_n 3, 1) := by decide +kernel
theorem dX7_textTold_52 : decode cX7_textTold 52 = .ok (.getfield 251, 3) := by decide +kernel
theorem dX7_textTold_55 : decode cX7_textTold 55 = .ok (.ireturn, 1) := by decide +kernel
theorem dX7_why_0 : decode cX7_why 0 = .ok (.iload_n 1, 1) := by decide +kernel
theorem dX7_why_1 : decode cX7_why 1 = .ok (.iconst 0, 1) := by decide +kernel
theorem dX7_why_2 : decode cX7_why 2 = .ok (.iconst 2, 1) := by decide +kernel
theorem dX7_why_3 : decode cX7_why 3 = .ok (.invokestatic 148, 3) := by decide +kernel
theorem dX7_why_6 : decode cX7_why 6 = .ok (.ifCond .eq 11, 3) := by decide +kernel
theorem dX7_why_9 : decode cX7_why 9 = .ok (.aload_n 0, 1) := by decide +kernel
theorem dX7_why_10 : decode cX7_why 10 = .ok (.iload_n 1, 1) := by decide +kernel
theorem dX7_why_11 : decode cX7_why 11 = .ok (.invokevirtual 254, 3) := by decide +kernel
theorem dX7_why_14 : decode cX7_why 14 = .ok (.goto 5, 3) := by decide +kernel
theorem dX7_why_17 : decode cX7_why 17 = .ok (.ldc 89, 2) := by decide +kernel
theorem dX7_why_19 : decode cX7_why 19 = .ok (.ireturn, 1) := by decide +kernel
theorem dX7_sheet_0 : decode cX7_sheet 0 = .ok (.iload_n 1, 1) := by decide +kernel
theorem dX7_sheet_1 : decode cX7_sheet 1 = .ok (.invokestatic 206, 3) := by decide +kernel
theorem dX7_sheet_4 : decode cX7_sheet 4 = .ok (.ifCond .eq 12, 3) := by decide +kernel
theorem dX7_sheet_7 : decode cX7_sheet 7 = .ok (.iload_n 2, 1) := by decide +kernel
theorem dX7_sheet_8 : decode cX7_sheet 8 = .ok (.iconst (-1), 1) := by decide +kernel
theorem dX7_sheet_9 : decode cX7_sheet 9 = .ok (.iconst 1, 1) := by decide +kernel
theorem dX7_sheet_10 : decode cX7_sheet 10 = .ok (.invokestatic 148, 3) := by decide +kernel
theorem dX7_sheet_13 : decode cX7_sheet 13 = .ok (.ifCond .ne 6, 3) := by decide +kernel
theorem dX7_sheet_16 : decode cX7_sheet 16 = .ok (.ldc 89, 2) := by decide +kernel
theorem dX7_sheet_18 : decode cX7_sheet 18 = .ok (.ireturn, 1) := by decide +kernel
theorem dX7_sheet_19 : decode cX7_sheet 19 = .ok (.iload_n 2, 1) := by decide +kernel
theorem dX7_sheet_20 : decode cX7_sheet 20 = .ok (.iconst (-1), 1) := by decide +kernel
theorem dX7_sheet_21 : decode cX7_sheet 21 = .ok (.if_icmp .ne 16, 3) := by decide +kernel
theorem dX7_sheet_24 : decode cX7_sheet 24 = .ok (.aload_n 0, 1) := by decide +kernel
theorem dX7_sheet_25 : decode cX7_sheet 25 = .ok (.getfield 60, 3) := by decide +kernel
theorem dX7_sheet_28 : decode cX7_sheet 28 = .ok (.iload_n 1, 1) := by decide +kernel
theorem dX7_sheet_29 : decode cX7_sheet 29 = .ok (.aaload, 1) := by decide +kernel
theorem dX7_sheet_30 : decode cX7_sheet 30 = .ok (.iconst (-1), 1) := by decide +kernel
theorem dX7_sheet_31 : decode cX7_sheet 31 = .ok (.iconst 0, 1) := by decide +kernel
theorem dX7_sheet_32 : decode cX7_sheet 32 = .ok (.invokevirtual 257, 3) := by decide +kernel
theorem dX7_sheet_35 : decode cX7_sheet 35 = .ok (.iconst 0, 1) := by decide +kernel
theorem dX7_sheet_36 : decode cX7_sheet 36 = .ok (.ireturn, 1) := by decide +kernel
theorem dX7_sheet_37 : decode cX7_sheet 37 = .ok (.iload_n 3, 1) := by decide +kernel
theorem dX7_sheet_38 : decode cX7_sheet 38 = .ok (.bipush 24, 2) := by decide +kernel
theorem dX7_sheet_40 : decode cX7_sheet 40 = .ok (.if_icmp .le 6, 3) := by decide +kernel
theorem dX7_sheet_43 : decode cX7_sheet 43 = .ok (.ldc 89, 2) := by decide +kernel
theorem dX7_sheet_45 : decode cX7_sheet 45 = .ok (.ireturn, 1) := by decide +kernel
theorem dX7_sheet_46 : decode cX7_sheet 46 = .ok (.iload_n 3, 1) := by decide +kernel
theorem dX7_sheet_47 : decode cX7_sheet 47 = .ok (.ifCond .ge 7, 3) := by decide +kernel
theorem dX7_sheet_50 : decode cX7_sheet 50 = .ok (.ldc_w 259, 3) := by decide +kernel
theorem dX7_sheet_53 : decode cX7_sheet 53 = .ok (.ireturn, 1) := by decide +kernel
theorem dX7_sheet_54 : decode cX7_sheet 54 = .ok (.aload_n 0, 1) := by decide +kernel
theorem dX7_sheet_55 : decode cX7_sheet 55 = .ok (.getfield 60, 3) := by decide +kernel
theorem dX7_sheet_58 : decode cX7_sheet 58 = .ok (.iload_n 1, 1) := by decide +kernel
theorem dX7_sheet_59 : decode cX7_sheet 59 = .ok (.aaload, 1) := by decide +kernel
theorem dX7_sheet_60 : decode cX7_sheet 60 = .ok (.iload_n 2, 1) := by decide +kernel
theorem dX7_sheet_61 : decode cX7_sheet 61 = .ok (.iload_n 3, 1) := by decide +kernel
theorem dX7_sheet_62 : decode cX7_sheet 62 = .ok (.invokevirtual 257, 3) := by decide +kernel
theorem dX7_sheet_65 : decode cX7_sheet 65 = .ok (.iload_n 3, 1) := by decide +kernel
theorem dX7_sheet_66 : decode cX7_sheet 66 = .ok (.ireturn, 1) := by decide +kernel
theorem dX7_mark_0 : decode cX7_mark 0 = .ok (.iload_n 1, 1) := by decide +kernel
theorem dX7_mark_1 : decode cX7_mark 1 = .ok (.invokestatic 206, 3) := by decide +kernel
theorem dX7_mark_4 : decode cX7_mark 4 = .ok (.ifCond .ne 6, 3) := by decide +kernel
theorem dX7_mark_7 : decode cX7_mark 7 = .ok (.ldc 89, 2) := by decide +kernel
theorem dX7_mark_9 : decode cX7_mark 9 = .ok (.ireturn, 1) := by decide +kernel
theorem dX7_mark_10 : decode cX7_mark 10 = .ok (.aload_n 0, 1) := by decide +kernel
theorem dX7_mark_11 : decode cX7_mark 11 = .ok (.getfield 60, 3) := by decide +kernel
theorem dX7_mark_14 : decode cX7_mark 14 = .ok (.iload_n 1, 1) := by decide +kernel
theorem dX7_mark_15 : decode cX7_mark 15 = .ok (.aaload, 1) := by decide +kernel
theorem dX7_mark_16 : decode cX7_mark 16 = .ok (.astore 4, 2) := by decide +kernel
theorem dX7_mark_18 : decode cX7_mark 18 = .ok (.aload 4, 2) := by decide +kernel
theorem dX7_mark_20 : decode cX7_mark 20 = .ok (.invokevirtual 209, 3) := by decide +kernel
theorem dX7_mark_23 : decode cX7_mark 23 = .ok (.ifCond .eq 6, 3) := by decide +kernel
theorem dX7_mark_26 : decode cX7_mark 26 = .ok (.ldc 213, 2) := by decide +kernel
theorem dX7_mark_28 : decode cX7_mark 28 = .ok (.ireturn, 1) := by decide +kernel
theorem dX7_mark_29 : decode cX7_mark 29 = .ok (.aload 4, 2) := by decide +kernel
theorem dX7_mark_31 : decode cX7_mark 31 = .ok (.iload_n 2, 1) := by decide +kernel
theorem dX7_mark_32 : decode cX7_mark 32 = .ok (.invokevirtual 260, 3) := by decide +kernel
theorem dX7_mark_35 : decode cX7_mark 35 = .ok (.ifCond .ne 7, 3) := by decide +kernel
theorem dX7_mark_38 : decode cX7_mark 38 = .ok (.ldc_w 261, 3) := by decide +kernel
theorem dX7_mark_41 : decode cX7_mark 41 = .ok (.ireturn, 1) := by decide +kernel
theorem dX7_mark_42 : decode cX7_mark 42 = .ok (.aload 4, 2) := by decide +kernel
theorem dX7_mark_44 : decode cX7_mark 44 = .ok (.getfield 262, 3) := by decide +kernel
theorem dX7_mark_47 : decode cX7_mark 47 = .ok (.ifCond .ne 23, 3) := by decide +kernel
theorem dX7_mark_50 : decode cX7_mark 50 = .ok (.iload_n 3, 1) := by decide +kernel
theorem dX7_mark_51 : decode cX7_mark 51 = .ok (.ldc 195, 2) := by decide +kernel
theorem dX7_mark_53 : decode cX7_mark 53 = .ok (.if_icmp .ne 6, 3) := by decide +kernel
theorem dX7_mark_56 : decode cX7_mark 56 = .ok (.ldc 133, 2) := by decide +kernel
theorem dX7_mark_58 : decode cX7_mark 58 = .ok (.ireturn, 1) := by decide +kernel
theorem dX7_mark_59 : decode cX7_mark 59 = .ok (.aload 4, 2) := by decide +kernel
theorem dX7_mark_61 : decode cX7_mark 61 = .ok (.getfield 265, 3) := by decide +kernel
theorem dX7_mark_64 : decode cX7_mark 64 = .ok (.iload_n 2, 1) := by decide +kernel
theorem dX7_mark_65 : decode cX7_mark 65 = .ok (.iload_n 3, 1) := by decide +kernel
theorem dX7_mark_66 : decode cX7_mark 66 = .ok (.i2s, 1) := by decide +kernel
theorem dX7_mark_67 : decode cX7_mark 67 = .ok (.iastore, 1) := by decide +kernel
theorem dX7_mark_68 : decode cX7_mark 68 = .ok (.iconst 1, 1) := by decide +kernel
theorem dX7_mark_69 : decode cX7_mark 69 = .ok (.ireturn, 1) := by decide +kernel
theorem dX7_mark_70 : decode cX7_mark 70 = .ok (.iload_n 3, 1) := by decide +kernel
theorem dX7_mark_71 : decode cX7_mark 71 = .ok (.ldc 195, 2) := by decide +kernel
theorem dX7_mark_73 : decode cX7_mark 73 = .ok (.if_icmp .eq 19, 3) := by decide +kernel
theorem dX7_mark_76 : decode cX7_mark 76 = .ok (.iload_n 3, 1) := by decide +kernel
theorem dX7_mark_77 : decode cX7_mark 77 = .ok (.ldc_w 268, 3) := by decide +kernel
theorem dX7_mark_80 : decode cX7_mark 80 = .ok (.ldc_w 269, 3) := by decide +kernel
theorem dX7_mark_83 : decode cX7_mark 83 = .ok (.invokestatic 148, 3) := by decide +kernel
theorem dX7_mark_86 : decode cX7_mark 86 = .ok (.ifCond .ne 6, 3) := by decide +kernel
theorem dX7_mark_89 : decode cX7_mark 89 = .ok (.ldc 89, 2) := by decide +kernel
theorem dX7_mark_91 : decode cX7_mark 91 = .ok (.ireturn, 1) := by decide +kernel
theorem dX7_mark_92 : decode cX7_mark 92 = .ok (.aload 4, 2) := by decide +kernel
theorem dX7_mark_94 : decode cX7_mark 94 = .ok (.getfield 265, 3) := by decide +kernel
theorem dX7_mark_97 : decode cX7_mark 97 = .ok (.iload_n 2, 1) := by decide +kernel
theorem dX7_mark_98 : decode cX7_mark 98 = .ok (.iload_n 3, 1) := by decide +kernel
theorem dX7_mark_99 : decode cX7_mark 99 = .ok (.iastore, 1) := by decide +kernel
theorem dX7_mark_100 : decode cX7_mark 100 = .ok (.iconst 1, 1) := by decide +kernel
theorem dX7_mark_101 : decode cX7_mark 101 = .ok (.ireturn, 1) := by decide +kernel
theorem dX7_pour_0 : decode cX7_pour 0 = .ok (.iload_n 1, 1) := by decide +kernel
theorem dX7_pour_1 : decode cX7_pour 1 = .ok (.invokestatic 206, 3) := by decide +kernel
theorem dX7_pour_4 : decode cX7_pour 4 = .ok (.ifCond .ne 6, 3) := by decide +kernel
theorem dX7_pour_7 : decode cX7_pour 7 = .ok (.ldc 89, 2) := by decide +kernel
theorem dX7_pour_9 : decode cX7_pour 9 = .ok (.ireturn, 1) := by decide +kernel
theorem dX7_pour_10 : decode cX7_pour 10 = .ok (.aload_n 0, 1) := by decide +kernel
theorem dX7_pour_11 : decode cX7_pour 11 = .ok (.getfield 60, 3) := by decide +kernel
theorem dX7_pour_14 : decode cX7_pour 14 = .ok (.iload_n 1, 1) := by decide +kernel
theorem dX7_pour_15 : decode cX7_pour 15 = .ok (.aaload, 1) := by decide +kernel
theorem dX7_pour_16 : decode cX7_pour 16 = .ok (.astore_n 2, 1) := by decide +kernel
theorem dX7_pour_17 : decode cX7_pour 17 = .ok (.aload_n 2, 1) := by decide +kernel
theorem dX7_pour_18 : decode cX7_pour 18 = .ok (.invokevirtual 209, 3) := by decide +kernel
theorem dX7_pour_21 : decode cX7_pour 21 = .ok (.ifCond .eq 6, 3) := by decide +kernel
theorem dX7_pour_24 : decode cX7_pour 24 = .ok (.ldc 213, 2) := by decide +kernel
theorem dX7_pour_26 : decode cX7_pour 26 = .ok (.ireturn, 1) := by decide +kernel
theorem dX7_pour_27 : decode cX7_pour 27 = .ok (.iconst 0, 1) := by decide +kernel
theorem dX7_pour_28 : decode cX7_pour 28 = .ok (.istore_n 3, 1) := by decide +kernel
theorem dX7_pour_29 : decode cX7_pour 29 = .ok (.iconst 0, 1) := by decide +kernel
theorem dX7_pour_30 : decode cX7_pour 30 = .ok (.istore 4, 2) := by decide +kernel
theorem dX7_pour_32 : decode cX7_pour 32 = .ok (.iload 4, 2) := by decide +kernel
theorem dX7_pour_34 : decode cX7_pour 34 = .ok (.aload_n 0, 1) := by decide +kernel
theorem dX7_pour_35 : decode cX7_pour 35 = .ok (.getfield 10, 3) := by decide +kernel
theorem dX7_pour_38 : decode cX7_pour 38 = .ok (.getfield 90, 3) := by decide +kernel
theorem dX7_pour_41 : decode cX7_pour 41 = .ok (.if_icmp .ge 91, 3) := by decide +kernel
theorem dX7_pour_44 : decode cX7_pour 44 = .ok (.iload 4, 2) := by decide +kernel
theorem dX7_pour_46 : decode cX7_pour 46 = .ok (.aload_n 2, 1) := by decide +kernel
theorem dX7_pour_47 : decode cX7_pour 47 = .ok (.getfield 270, 3) := by decide +kernel
theorem dX7_pour_50 : decode cX7_pour 50 = .ok (.if_icmp .ge 82, 3) := by decide +kernel
theorem dX7_pour_53 : decode cX7_pour 53 = .ok (.aload_n 2, 1) := by decide +kernel
theorem dX7_pour_54 : decode cX7_pour 54 = .ok (.iload 4, 2) := by decide +kernel
theorem dX7_pour_56 : decode cX7_pour 56 = .ok (.invokevirtual 273, 3) := by decide +kernel
theorem dX7_pour_59 : decode cX7_pour 59 = .ok (.ifCond .eq 67, 3) := by decide +kernel
theorem dX7_pour_62 : decode cX7_pour 62 = .ok (.aload_n 2, 1) := by decide +kernel
theorem dX7_pour_63 : decode cX7_pour 63 = .ok (.getfield 265, 3) := by decide +kernel
theorem dX7_pour_66 : decode cX7_pour 66 = .ok (.iload 4, 2) := by decide +kernel
theorem dX7_pour_68 : decode cX7_pour 68 = .ok (.iaload, 1) := by decide +kernel
theorem dX7_pour_69 : decode cX7_pour 69 = .ok (.iconst 0, 1) := by decide +kernel
theorem dX7_pour_70 : decode cX7_pour 70 = .ok (.bipush 9, 2) := by decide +kernel
theorem dX7_pour_72 : decode cX7_pour 72 = .ok (.invokestatic 276, 3) := by decide +kernel
theorem dX7_pour_75 : decode cX7_pour 75 = .ok (.istore 5, 2) := by decide +kernel
theorem dX7_pour_77 : decode cX7_pour 77 = .ok (.iload 5, 2) := by decide +kernel
theorem dX7_pour_79 : decode cX7_pour 79 = .ok (.aload_n 0, 1) := by decide +kernel
theorem dX7_pour_80 : decode cX7_pour 80 = .ok (.getfield 10, 3) := by decide +kernel
theorem dX7_pour_83 : decode cX7_pour 83 = .ok (.getfield 107, 3) := by decide +kernel
theorem dX7_pour_86 : decode cX7_pour 86 = .ok (.iload 4, 2) := by decide +kernel
theorem dX7_pour_88 : decode cX7_pour 88 = .ok (.iaload, 1) := by decide +kernel
theorem dX7_pour_89 : decode cX7_pour 89 = .ok (.if_icmp .eq 6, 3) := by decide +kernel
theorem dX7_pour_92 : decode cX7_pour 92 = .ok (.iinc 3 1, 3) := by decide +kernel
theorem dX7_pour_95 : decode cX7_pour 95 = .ok (.aload_n 0, 1) := by decide +kernel
theorem dX7_pour_96 : decode cX7_pour 96 = .ok (.getfield 10, 3) := by decide +kernel
theorem dX7_pour_99 : decode cX7_pour 99 = .ok (.iload 4, 2) := by decide +kernel
theorem dX7_pour_101 : decode cX7_pour 101 = .ok (.aload_n 0, 1) := by decide +kernel
theorem dX7_pour_102 : decode cX7_pour 102 = .ok (.getfield 10, 3) := by decide +kernel
theorem dX7_pour_105 : decode cX7_pour 105 = .ok (.getfield 101, 3) := by decide +kernel
theorem dX7_pour_108 : decode cX7_pour 108 = .ok (.iload 4, 2) := by decide +kernel
theorem dX7_pour_110 : decode cX7_pour 110 = .ok (.iaload, 1) := by decide +kernel
theorem dX7_pour_111 : decode cX7_pour 111 = .ok (.aload_n 0, 1) := by decide +kernel
theorem dX7_pour_112 : decode cX7_pour 112 = .ok (.getfield 10, 3) := by decide +kernel
theorem dX7_pour_115 : decode cX7_pour 115 = .ok (.getfield 104, 3) := by decide +kernel
theorem dX7_pour_118 : decode cX7_pour 118 = .ok (.iload 4, 2) := by decide +kernel
theorem dX7_pour_120 : decode cX7_pour 120 = .ok (.iaload, 1) := by decide +kernel
theorem dX7_pour_121 : decode cX7_pour 121 = .ok (.iload 5, 2) := by decide +kernel
theorem dX7_pour_123 : decode cX7_pour 123 = .ok (.invokevirtual 134, 3) := by decide +kernel
theorem dX7_pour_126 : decode cX7_pour 126 = .ok (.iinc 4 1, 3) := by decide +kernel
theorem dX7_pour_129 : decode cX7_pour 129 = .ok (.goto (-97), 3) := by decide +kernel
theorem dX7_pour_132 : decode cX7_pour 132 = .ok (.iload_n 3, 1) := by decide +kernel
theorem dX7_pour_133 : decode cX7_pour 133 = .ok (.ireturn, 1) := by decide +kernel
theorem dX7_reads_0 : decode cX7_reads 0 = .ok (.iload_n 1, 1) := by decide +kernel
theorem dX7_reads_1 : decode cX7_reads 1 = .ok (.invokestatic 206, 3) := by decide +kernel
theorem dX7_reads_4 : decode cX7_reads 4 = .ok (.ifCond .ne 6, 3) := by decide +kernel
theorem dX7_reads_7 : decode cX7_reads 7 = .ok (.ldc 89, 2) := by decide +kernel
theorem dX7_reads_9 : decode cX7_reads 9 = .ok (.ireturn, 1) := by decide +kernel
theorem dX7_reads_10 : decode cX7_reads 10 = .ok (.aload_n 0, 1) := by decide +kernel
theorem dX7_reads_11 : decode cX7_reads 11 = .ok (.getfield 60, 3) := by decide +kernel
theorem dX7_reads_14 : decode cX7_reads 14 = .ok (.iload_n 1, 1) := by decide +kernel
theorem dX7_reads_15 : decode cX7_reads 15 = .ok (.aaload, 1) := by decide +kernel
theorem dX7_reads_16 : decode cX7_reads 16 = .ok (.astore_n 2, 1) := by decide +kernel
theorem dX7_reads_17 : decode cX7_reads 17 = .ok (.aload_n 2, 1) := by decide +kernel
theorem dX7_reads_18 : decode cX7_reads 18 = .ok (.invokevirtual 209, 3) := by decide +kernel
theorem dX7_reads_21 : decode cX7_reads 21 = .ok (.ifCond .eq 6, 3) := by decide +kernel
theorem dX7_reads_24 : decode cX7_reads 24 = .ok (.ldc 213, 2) := by decide +kernel
theorem dX7_reads_26 : decode cX7_reads 26 = .ok (.ireturn, 1) := by decide +kernel
theorem dX7_reads_27 : decode cX7_reads 27 = .ok (.iconst 0, 1) := by decide +kernel
theorem dX7_reads_28 : decode cX7_reads 28 = .ok (.istore_n 3, 1) := by decide +kernel
theorem dX7_reads_29 : decode cX7_reads 29 = .ok (.iload_n 3, 1) := by decide +kernel
theorem dX7_reads_30 : decode cX7_reads 30 = .ok (.aload_n 2, 1) := by decide +kernel
theorem dX7_reads_31 : decode cX7_reads 31 = .ok (.getfield 270, 3) := by decide +kernel
theorem dX7_reads_34 : decode cX7_reads 34 = .ok (.if_icmp .ge 48, 3) := by decide +kernel
theorem dX7_reads_37 : decode cX7_reads 37 = .ok (.aload_n 2, 1) := by decide +kernel
theorem dX7_reads_38 : decode cX7_reads 38 = .ok (.iload_n 3, 1) := by decide +kernel
theorem dX7_reads_39 : decode cX7_reads 39 = .ok (.invokevirtual 273, 3) := by decide +kernel
theorem dX7_reads_42 : decode cX7_reads 42 = .ok (.ifCond .eq 34, 3) := by decide +kernel
theorem dX7_reads_45 : decode cX7_reads 45 = .ok (.aload_n 0, 1) := by decide +kernel
theorem dX7_reads_46 : decode cX7_reads 46 = .ok (.getfield 10, 3) := by decide +kernel
theorem dX7_reads_49 : decode cX7_reads 49 = .ok (.iload_n 3, 1) := by decide +kernel
theorem dX7_reads_50 : decode cX7_reads 50 = .ok (.invokevirtual 98, 3) := by decide +kernel
theorem dX7_reads_53 : decode cX7_reads 53 = .ok (.ifCond .eq 21, 3) := by decide +kernel
theorem dX7_reads_56 : decode cX7_reads 56 = .ok (.aload_n 2, 1) := by decide +kernel
theorem dX7_reads_57 : decode cX7_reads 57 = .ok (.getfield 265, 3) := by decide +kernel
theorem dX7_reads_60 : decode cX7_reads 60 = .ok (.iload_n 3, 1) := by decide +kernel
theorem dX7_reads_61 : decode cX7_reads 61 = .ok (.iaload, 1) := by decide +kernel
theorem dX7_reads_62 : decode cX7_reads 62 = .ok (.aload_n 0, 1) := by decide +kernel
theorem dX7_reads_63 : decode cX7_reads 63 = .ok (.getfield 10, 3) := by decide +kernel
theorem dX7_reads_66 : decode cX7_reads 66 = .ok (.getfield 142, 3) := by decide +kernel
theorem dX7_reads_69 : decode cX7_reads 69 = .ok (.iload_n 3, 1) := by decide +kernel
theorem dX7_reads_70 : decode cX7_reads 70 = .ok (.iaload, 1) := by decide +kernel
theorem dX7_reads_71 : decode cX7_reads 71 = .ok (.if_icmp .eq 5, 3) := by decide +kernel
theorem dX7_reads_74 : decode cX7_reads 74 = .ok (.iload_n 3, 1) := by decide +kernel
theorem dX7_reads_75 : decode cX7_reads 75 = .ok (.ireturn, 1) := by decide +kernel
theorem dX7_reads_76 : decode cX7_reads 76 = .ok (.iinc 3 1, 3) := by decide +kernel
theorem dX7_reads_79 : decode cX7_reads 79 = .ok (.goto (-50), 3) := by decide +kernel
theorem dX7_reads_82 : decode cX7_reads 82 = .ok (.ldc 195, 2) := by decide +kernel
theorem dX7_reads_84 : decode cX7_reads 84 = .ok (.ireturn, 1) := by decide +kernel
theorem dX7_copy_0 : decode cX7_copy 0 = .ok (.iload_n 1, 1) := by decide +kernel
theorem dX7_copy_1 : decode cX7_copy 1 = .ok (.invokestatic 206, 3) := by decide +kernel
theorem dX7_copy_4 : decode cX7_copy 4 = .ok (.ifCond .eq 10, 3) := by decide +kernel
theorem dX7_copy_7 : decode cX7_copy 7 = .ok (.iload_n 3, 1) := by decide +kernel
theorem dX7_copy_8 : decode cX7_copy 8 = .ok (.invokestatic 206, 3) := by decide +kernel
theorem dX7_copy_11 : decode cX7_copy 11 = .ok (.ifCond .ne 6, 3) := by decide +kernel
theorem dX7_copy_14 : decode cX7_copy 14 = .ok (.ldc 89, 2) := by decide +kernel
theorem dX7_copy_16 : decode cX7_copy 16 = .ok (.ireturn, 1) := by decide +kernel
theorem dX7_copy_17 : decode cX7_copy 17 = .ok (.aload_n 0, 1) := by decide +kernel
theorem dX7_copy_18 : decode cX7_copy 18 = .ok (.getfield 60, 3) := by decide +kernel
theorem dX7_copy_21 : decode cX7_copy 21 = .ok (.iload_n 1, 1) := by decide +kernel
theorem dX7_copy_22 : decode cX7_copy 22 = .ok (.aaload, 1) := by decide +kernel
theorem dX7_copy_23 : decode cX7_copy 23 = .ok (.astore 6, 2) := by decide +kernel
theorem dX7_copy_25 : decode cX7_copy 25 = .ok (.aload_n 0, 1) := by decide +kernel
theorem dX7_copy_26 : decode cX7_copy 26 = .ok (.getfield 60, 3) := by decide +kernel
theorem dX7_copy_29 : decode cX7_copy 29 = .ok (.iload_n 3, 1) := by decide +kernel
theorem dX7_copy_30 : decode cX7_copy 30 = .ok (.aaload, 1) := by decide +kernel
theorem dX7_copy_31 : decode cX7_copy 31 = .ok (.astore 7, 2) := by decide +kernel
theorem dX7_copy_33 : decode cX7_copy 33 = .ok (.aload 6, 2) := by decide +kernel
theorem dX7_copy_35 : decode cX7_copy 35 = .ok (.invokevirtual 209, 3) := by decide +kernel
theorem dX7_copy_38 : decode cX7_copy 38 = .ok (.ifCond .ne 11, 3) := by decide +kernel
theorem dX7_copy_41 : decode cX7_copy 41 = .ok (.aload 7, 2) := by decide +kernel
theorem dX7_copy_43 : decode cX7_copy 43 = .ok (.invokevirtual 209, 3) := by decide +kernel
theorem dX7_copy_46 : decode cX7_copy 46 = .ok (.ifCond .eq 6, 3) := by decide +kernel
theorem dX7_copy_49 : decode cX7_copy 49 = .ok (.ldc 213, 2) := by decide +kernel
theorem dX7_copy_51 : decode cX7_copy 51 = .ok (.ireturn, 1) := by decide +kernel
theorem dX7_copy_52 : decode cX7_copy 52 = .ok (.aload 6, 2) := by decide +kernel
theorem dX7_copy_54 : decode cX7_copy 54 = .ok (.getfield 262, 3) := by decide +kernel
theorem dX7_copy_57 : decode cX7_copy 57 = .ok (.aload 7, 2) := by decide +kernel
theorem dX7_copy_59 : decode cX7_copy 59 = .ok (.getfield 262, 3) := by decide +kernel
theorem dX7_copy_62 : decode cX7_copy 62 = .ok (.if_icmp .eq 6, 3) := by decide +kernel
theorem dX7_copy_65 : decode cX7_copy 65 = .ok (.ldc 133, 2) := by decide +kernel
theorem dX7_copy_67 : decode cX7_copy 67 = .ok (.ireturn, 1) := by decide +kernel
theorem dX7_copy_68 : decode cX7_copy 68 = .ok (.aload 6, 2) := by decide +kernel
theorem dX7_copy_70 : decode cX7_copy 70 = .ok (.iload_n 2, 1) := by decide +kernel
theorem dX7_copy_71 : decode cX7_copy 71 = .ok (.iload 5, 2) := by decide +kernel
theorem dX7_copy_73 : decode cX7_copy 73 = .ok (.invokevirtual 279, 3) := by decide +kernel
theorem dX7_copy_76 : decode cX7_copy 76 = .ok (.ifCond .eq 15, 3) := by decide +kernel
theorem dX7_copy_79 : decode cX7_copy 79 = .ok (.aload 7, 2) := by decide +kernel
theorem dX7_copy_81 : decode cX7_copy 81 = .ok (.iload 4, 2) := by decide +kernel
theorem dX7_copy_83 : decode cX7_copy 83 = .ok (.iload 5, 2) := by decide +kernel
theorem dX7_copy_85 : decode cX7_copy 85 = .ok (.invokevirtual 279, 3) := by decide +kernel
theorem dX7_copy_88 : decode cX7_copy 88 = .ok (.ifCond .ne 7, 3) := by decide +kernel
theorem dX7_copy_91 : decode cX7_copy 91 = .ok (.ldc_w 261, 3) := by decide +kernel
theorem dX7_copy_94 : decode cX7_copy 94 = .ok (.ireturn, 1) := by decide +kernel
theorem dX7_copy_95 : decode cX7_copy 95 = .ok (.aload 6, 2) := by decide +kernel
theorem dX7_copy_97 : decode cX7_copy 97 = .ok (.getfield 265, 3) := by decide +kernel
theorem dX7_copy_100 : decode cX7_copy 100 = .ok (.iload_n 2, 1) := by decide +kernel
theorem dX7_copy_101 : decode cX7_copy 101 = .ok (.aload 7, 2) := by decide +kernel
theorem dX7_copy_103 : decode cX7_copy 103 = .ok (.getfield 265, 3) := by decide +kernel
theorem dX7_copy_106 : decode cX7_copy 106 = .ok (.iload 4, 2) := by decide +kernel
theorem dX7_copy_108 : decode cX7_copy 108 = .ok (.iload 5, 2) := by decide +kernel
theorem dX7_copy_110 : decode cX7_copy 110 = .ok (.invokestatic 282, 3) := by decide +kernel
theorem dX7_copy_113 : decode cX7_copy 113 = .ok (.iload 5, 2) := by decide +kernel
theorem dX7_copy_115 : decode cX7_copy 115 = .ok (.ireturn, 1) := by decide +kernel
theorem dX7_lay_0 : decode cX7_lay 0 = .ok (.iload_n 1, 1) := by decide +kernel
theorem dX7_lay_1 : decode cX7_lay 1 = .ok (.invokestatic 288, 3) := by decide +kernel
theorem dX7_lay_4 : decode cX7_lay 4 = .ok (.ifCond .eq 12, 3) := by decide +kernel
theorem dX7_lay_7 : decode cX7_lay 7 = .ok (.iload_n 2, 1) := by decide +kernel
theorem dX7_lay_8 : decode cX7_lay 8 = .ok (.iconst 0, 1) := by decide +kernel
theorem dX7_lay_9 : decode cX7_lay 9 = .ok (.iconst 3, 1) := by decide +kernel
theorem dX7_lay_10 : decode cX7_lay 10 = .ok (.invokestatic 148, 3) := by decide +kernel
theorem dX7_lay_13 : decode cX7_lay 13 = .ok (.ifCond .ne 6, 3) := by decide +kernel
theorem dX7_lay_16 : decode cX7_lay 16 = .ok (.ldc 89, 2) := by decide +kernel
theorem dX7_lay_18 : decode cX7_lay 18 = .ok (.ireturn, 1) := by decide +kernel
theorem dX7_lay_19 : decode cX7_lay 19 = .ok (.iload_n 2, 1) := by decide +kernel
theorem dX7_lay_20 : decode cX7_lay 20 = .ok (.iconst 1, 1) := by decide +kernel
theorem dX7_lay_21 : decode cX7_lay 21 = .ok (.if_icmp .ne 14, 3) := by decide +kernel
theorem dX7_lay_24 : decode cX7_lay 24 = .ok (.aload_n 0, 1) := by decide +kernel
theorem dX7_lay_25 : decode cX7_lay 25 = .ok (.getfield 10, 3) := by decide +kernel
theorem dX7_lay_28 : decode cX7_lay 28 = .ok (.iload_n 3, 1) := by decide +kernel
theorem dX7_lay_29 : decode cX7_lay 29 = .ok (.invokevirtual 98, 3) := by decide +kernel
theorem dX7_lay_32 : decode cX7_lay 32 = .ok (.ifCond .eq 15, 3) := by decide +kernel
theorem dX7_lay_35 : decode cX7_lay 35 = .ok (.iload_n 2, 1) := by decide +kernel
theorem dX7_lay_36 : decode cX7_lay 36 = .ok (.iconst 2, 1) := by decide +kernel
theorem dX7_lay_37 : decode cX7_lay 37 = .ok (.if_icmp .ne 13, 3) := by decide +kernel
theorem dX7_lay_40 : decode cX7_lay 40 = .ok (.iload_n 3, 1) := by decide +kernel
theorem dX7_lay_41 : decode cX7_lay 41 = .ok (.invokestatic 206, 3) := by decide +kernel
theorem dX7_lay_44 : decode cX7_lay 44 = .ok (.ifCond .ne 6, 3) := by decide +kernel
theorem dX7_lay_47 : decode cX7_lay 47 = .ok (.ldc 89, 2) := by decide +kernel
theorem dX7_lay_49 : decode cX7_lay 49 = .ok (.ireturn, 1) := by decide +kernel
theorem dX7_lay_50 : decode cX7_lay 50 = .ok (.iload_n 2, 1) := by decide +kernel
theorem dX7_lay_51 : decode cX7_lay 51 = .ok (.iconst 2, 1) := by decide +kernel
theorem dX7_lay_52 : decode cX7_lay 52 = .ok (.if_icmp .ne 18, 3) := by decide +kernel
theorem dX7_lay_55 : decode cX7_lay 55 = .ok (.aload_n 0, 1) := by decide +kernel
theorem dX7_lay_56 : decode cX7_lay 56 = .ok (.getfield 60, 3) := by decide +kernel
theorem dX7_lay_59 : decode cX7_lay 59 = .ok (.iload_n 3, 1) := by decide +kernel
theorem dX7_lay_60 : decode cX7_lay 60 = .ok (.aaload, 1) := by decide +kernel
theorem dX7_lay_61 : decode cX7_lay 61 = .ok (.invokevirtual 209, 3) := by decide +kernel
theorem dX7_lay_64 : decode cX7_lay 64 = .ok (.ifCond .eq 6, 3) := by decide +kernel
theorem dX7_lay_67 : decode cX7_lay 67 = .ok (.ldc 213, 2) := by decide +kernel
theorem dX7_lay_69 : decode cX7_lay 69 = .ok (.ireturn, 1) := by decide +kernel
theorem dX7_lay_70 : decode cX7_lay 70 = .ok (.aload_n 0, 1) := by decide +kernel
theorem dX7_lay_71 : decode cX7_lay 71 = .ok (.getfield 66, 3) := by decide +kernel
theorem dX7_lay_74 : decode cX7_lay 74 = .ok (.iload_n 1, 1) := by decide +kernel
theorem dX7_lay_75 : decode cX7_lay 75 = .ok (.aaload, 1) := by decide +kernel
theorem dX7_lay_76 : decode cX7_lay 76 = .ok (.astore 4, 2) := by decide +kernel
theorem dX7_lay_78 : decode cX7_lay 78 = .ok (.aload 4, 2) := by decide +kernel
theorem dX7_lay_80 : decode cX7_lay 80 = .ok (.getfield 291, 3) := by decide +kernel
theorem dX7_lay_83 : decode cX7_lay 83 = .ok (.istore 5, 2) := by decide +kernel
theorem dX7_lay_85 : decode cX7_lay 85 = .ok (.aload 4, 2) := by decide +kernel
theorem dX7_lay_87 : decode cX7_lay 87 = .ok (.iload_n 2, 1) := by decide +kernel
theorem dX7_lay_88 : decode cX7_lay 88 = .ok (.putfield 291, 3) := by decide +kernel
theorem dX7_lay_91 : decode cX7_lay 91 = .ok (.iload_n 2, 1) := by decide +kernel
theorem dX7_lay_92 : decode cX7_lay 92 = .ok (.iconst 1, 1) := by decide +kernel
theorem dX7_lay_93 : decode cX7_lay 93 = .ok (.if_icmp .ne 34, 3) := by decide +kernel
theorem dX7_lay_96 : decode cX7_lay 96 = .ok (.aload 4, 2) := by decide +kernel
theorem dX7_lay_98 : decode cX7_lay 98 = .ok (.aload_n 0, 1) := by decide +kernel
theorem dX7_lay_99 : decode cX7_lay 99 = .ok (.getfield 10, 3) := by decide +kernel
theorem dX7_lay_102 : decode cX7_lay 102 = .ok (.getfield 101, 3) := by decide +kernel
theorem dX7_lay_105 : decode cX7_lay 105 = .ok (.iload_n 3, 1) := by decide +kernel
theorem dX7_lay_106 : decode cX7_lay 106 = .ok (.iaload, 1) := by decide +kernel
theorem dX7_lay_107 : decode cX7_lay 107 = .ok (.putfield 294, 3) := by decide +kernel
theorem dX7_lay_110 : decode cX7_lay 110 = .ok (.aload 4, 2) := by decide +kernel
theorem dX7_lay_112 : decode cX7_lay 112 = .ok (.aload_n 0, 1) := by decide +kernel
theorem dX7_lay_113 : decode cX7_lay 113 = .ok (.getfield 10, 3) := by decide +kernel
theorem dX7_lay_116 : decode cX7_lay 116 = .ok (.getfield 104, 3) := by decide +kernel
theorem dX7_lay_119 : decode cX7_lay 119 = .ok (.iload_n 3, 1) := by decide +kernel
theorem dX7_lay_120 : decode cX7_lay 120 = .ok (.iaload, 1) := by decide +kernel
theorem dX7_lay_121 : decode cX7_lay 121 = .ok (.putfield 296, 3) := by decide +kernel
theorem dX7_lay_124 : decode cX7_lay 124 = .ok (.goto 36, 3) := by decide +kernel
theorem dX7_lay_127 : decode cX7_lay 127 = .ok (.iload_n 2, 1) := by decide +kernel
theorem dX7_lay_128 : decode cX7_lay 128 = .ok (.iconst 2, 1) := by decide +kernel
theorem dX7_lay_129 : decode cX7_lay 129 = .ok (.if_icmp .ne 20, 3) := by decide +kernel
theorem dX7_lay_132 : decode cX7_lay 132 = .ok (.aload 4, 2) := by decide +kernel
theorem dX7_lay_134 : decode cX7_lay 134 = .ok (.getfield 298, 3) := by decide +kernel
theorem dX7_lay_137 : decode cX7_lay 137 = .ok (.aload_n 0, 1) := by decide +kernel
theorem dX7_lay_138 : decode cX7_lay 138 = .ok (.getfield 60, 3) := by decide +kernel
theorem dX7_lay_141 : decode cX7_lay 141 = .ok (.iload_n 3, 1) := by decide +kernel
theorem dX7_lay_142 : decode cX7_lay 142 = .ok (.aaload, 1) := by decide +kernel
theorem dX7_lay_143 : decode cX7_lay 143 = .ok (.invokevirtual 302, 3) := by decide +kernel
theorem dX7_lay_146 : decode cX7_lay 146 = .ok (.goto 14, 3) := by decide +kernel
theorem dX7_lay_149 : decode cX7_lay 149 = .ok (.iload_n 2, 1) := by decide +kernel
theorem dX7_lay_150 : decode cX7_lay 150 = .ok (.iconst 3, 1) := by decide +kernel
theorem dX7_lay_151 : decode cX7_lay 151 = .ok (.if_icmp .ne 9, 3) := by decide +kernel
theorem dX7_lay_154 : decode cX7_lay 154 = .ok (.aload 4, 2) := by decide +kernel
theorem dX7_lay_156 : decode cX7_lay 156 = .ok (.iload_n 3, 1) := by decide +kernel
theorem dX7_lay_157 : decode cX7_lay 157 = .ok (.putfield 305, 3) := by decide +kernel
theorem dX7_lay_160 : decode cX7_lay 160 = .ok (.iload 5, 2) := by decide +kernel
theorem dX7_lay_162 : decode cX7_lay 162 = .ok (.ireturn, 1) := by decide +kernel
theorem dX7_ask_0 : decode cX7_ask 0 = .ok (.iload_n 1, 1) := by decide +kernel
theorem dX7_ask_1 : decode cX7_ask 1 = .ok (.invokestatic 288, 3) := by decide +kernel
theorem dX7_ask_4 : decode cX7_ask 4 = .ok (.ifCond .eq 10, 3) := by decide +kernel
theorem dX7_ask_7 : decode cX7_ask 7 = .ok (.iload_n 2, 1) := by decide +kernel
theorem dX7_ask_8 : decode cX7_ask 8 = .ok (.invokestatic 79, 3) := by decide +kernel
theorem dX7_ask_11 : decode cX7_ask 11 = .ok (.ifCond .ne 6, 3) := by decide +kernel
theorem dX7_ask_14 : decode cX7_ask 14 = .ok (.ldc 89, 2) := by decide +kernel
theorem dX7_ask_16 : decode cX7_ask 16 = .ok (.ireturn, 1) := by decide +kernel
theorem dX7_ask_17 : decode cX7_ask 17 = .ok (.aload_n 0, 1) := by decide +kernel
theorem dX7_ask_18 : decode cX7_ask 18 = .ok (.getfield 66, 3) := by decide +kernel
theorem dX7_ask_21 : decode cX7_ask 21 = .ok (.iload_n 1, 1) := by decide +kernel
theorem dX7_ask_22 : decode cX7_ask 22 = .ok (.aaload, 1) := by decide +kernel
theorem dX7_ask_23 : decode cX7_ask 23 = .ok (.astore_n 3, 1) := by decide +kernel
theorem dX7_ask_24 : decode cX7_ask 24 = .ok (.aload_n 3, 1) := by decide +kernel
theorem dX7_ask_25 : decode cX7_ask 25 = .ok (.getfield 291, 3) := by decide +kernel
theorem dX7_ask_28 : decode cX7_ask 28 = .ok (.ifCond .ne 6, 3) := by decide +kernel
theorem dX7_ask_31 : decode cX7_ask 31 = .ok (.ldc 213, 2) := by decide +kernel
theorem dX7_ask_33 : decode cX7_ask 33 = .ok (.ireturn, 1) := by decide +kernel
theorem dX7_ask_34 : decode cX7_ask 34 = .ok (.aload_n 3, 1) := by decide +kernel
theorem dX7_ask_35 : decode cX7_ask 35 = .ok (.getfield 291, 3) := by decide +kernel
theorem dX7_ask_38 : decode cX7_ask 38 = .ok (.iconst 1, 1) := by decide +kernel
theorem dX7_ask_39 : decode cX7_ask 39 = .ok (.if_icmp .ne 14, 3) := by decide +kernel
theorem dX7_ask_42 : decode cX7_ask 42 = .ok (.aload_n 3, 1) := by decide +kernel
theorem dX7_ask_43 : decode cX7_ask 43 = .ok (.getfield 294, 3) := by decide +kernel
theorem dX7_ask_46 : decode cX7_ask 46 = .ok (.iload_n 2, 1) := by decide +kernel
theorem dX7_ask_47 : decode cX7_ask 47 = .ok (.invokestatic 129, 3) := by decide +kernel
theorem dX7_ask_50 : decode cX7_ask 50 = .ok (.ifCond .ne 6, 3) := by decide +kernel
theorem dX7_ask_53 : decode cX7_ask 53 = .ok (.ldc 133, 2) := by decide +kernel
theorem dX7_ask_55 : decode cX7_ask 55 = .ok (.ireturn, 1) := by decide +kernel
theorem dX7_ask_56 : decode cX7_ask 56 = .ok (.aload_n 3, 1) := by decide +kernel
theorem dX7_ask_57 : decode cX7_ask 57 = .ok (.getfield 294, 3) := by decide +kernel
theorem dX7_ask_60 : decode cX7_ask 60 = .ok (.aload_n 3, 1) := by decide +kernel
theorem dX7_ask_61 : decode cX7_ask 61 = .ok (.getfield 296, 3) := by decide +kernel
theorem dX7_ask_64 : decode cX7_ask 64 = .ok (.invokestatic 125, 3) := by decide +kernel
theorem dX7_ask_67 : decode cX7_ask 67 = .ok (.ireturn, 1) := by decide +kernel
theorem dX7_item_0 : decode cX7_item 0 = .ok (.iload_n 1, 1) := by decide +kernel
theorem dX7_item_1 : decode cX7_item 1 = .ok (.invokestatic 288, 3) := by decide +kernel
theorem dX7_item_4 : decode cX7_item 4 = .ok (.ifCond .ne 6, 3) := by decide +kernel
theorem dX7_item_7 : decode cX7_item 7 = .ok (.ldc 89, 2) := by decide +kernel
theorem dX7_item_9 : decode cX7_item 9 = .ok (.ireturn, 1) := by decide +kernel
theorem dX7_item_10 : decode cX7_item 10 = .ok (.aload_n 0, 1) := by decide +kernel
theorem dX7_item_11 : decode cX7_item 11 = .ok (.getfield 66, 3) := by decide +kernel
theorem dX7_item_14 : decode cX7_item 14 = .ok (.iload_n 1, 1) := by decide +kernel
theorem dX7_item_15 : decode cX7_item 15 = .ok (.aaload, 1) := by decide +kernel
theorem dX7_item_16 : decode cX7_item 16 = .ok (.astore_n 3, 1) := by decide +kernel
theorem dX7_item_17 : decode cX7_item 17 = .ok (.aload_n 3, 1) := by decide +kernel
theorem dX7_item_18 : decode cX7_item 18 = .ok (.getfield 291, 3) := by decide +kernel
theorem dX7_item_21 : decode cX7_item 21 = .ok (.ifCond .ne 6, 3) := by decide +kernel
theorem dX7_item_24 : decode cX7_item 24 = .ok (.ldc 213, 2) := by decide +kernel
theorem dX7_item_26 : decode cX7_item 26 = .ok (.ireturn, 1) := by decide +kernel
theorem dX7_item_27 : decode cX7_item 27 = .ok (.aload_n 3, 1) := by decide +kernel
theorem dX7_item_28 : decode cX7_item 28 = .ok (.getfield 291, 3) := by decide +kernel
theorem dX7_item_31 : decode cX7_item 31 = .ok (.iconst 2, 1) := by decide +kernel
theorem dX7_item_32 : decode cX7_item 32 = .ok (.if_icmp .eq 6, 3) := by decide +kernel
theorem dX7_item_35 : decode cX7_item 35 = .ok (.ldc 133, 2) := by decide +kernel
theorem dX7_item_37 : decode cX7_item 37 = .ok (.ireturn, 1) := by decide +kernel
theorem dX7_item_38 : decode cX7_item 38 = .ok (.aload_n 3, 1) := by decide +kernel
theorem dX7_item_39 : decode cX7_item 39 = .ok (.getfield 298, 3) := by decide +kernel
theorem dX7_item_42 : decode cX7_item 42 = .ok (.iload_n 2, 1) := by decide +kernel
theorem dX7_item_43 : decode cX7_item 43 = .ok (.invokevirtual 260, 3) := by decide +kernel
theorem dX7_item_46 : decode cX7_item 46 = .ok (.ifCond .ne 7, 3) := by decide +kernel
theorem dX7_item_49 : decode cX7_item 49 = .ok (.ldc_w 261, 3) := by decide +kernel
theorem dX7_item_52 : decode cX7_item 52 = .ok (.ireturn, 1) := by decide +kernel
theorem dX7_item_53 : decode cX7_item 53 = .ok (.aload_n 3, 1) := by decide +kernel
theorem dX7_item_54 : decode cX7_item 54 = .ok (.getfield 298, 3) := by decide +kernel
theorem dX7_item_57 : decode cX7_item 57 = .ok (.iload_n 2, 1) := by decide +kernel
theorem dX7_item_58 : decode cX7_item 58 = .ok (.invokevirtual 273, 3) := by decide +kernel
theorem dX7_item_61 : decode cX7_item 61 = .ok (.ifCond .eq 15, 3) := by decide +kernel
theorem dX7_item_64 : decode cX7_item 64 = .ok (.aload_n 3, 1) := by decide +kernel
theorem dX7_item_65 : decode cX7_item 65 = .ok (.getfield 298, 3) := by decide +kernel
theorem dX7_item_68 : decode cX7_item 68 = .ok (.getfield 265, 3) := by decide +kernel
theorem dX7_item_71 : decode cX7_item 71 = .ok (.iload_n 2, 1) := by decide +kernel
theorem dX7_item_72 : decode cX7_item 72 = .ok (.iaload, 1) := by decide +kernel
theorem dX7_item_73 : decode cX7_item 73 = .ok (.goto 5, 3) := by decide +kernel
theorem dX7_item_76 : decode cX7_item 76 = .ok (.ldc 133, 2) := by decide +kernel
theorem dX7_item_78 : decode cX7_item 78 = .ok (.ireturn, 1) := by decide +kernel
theorem dX7_rest_0 : decode cX7_rest 0 = .ok (.iload_n 1, 1) := by decide +kernel
theorem dX7_rest_1 : decode cX7_rest 1 = .ok (.invokestatic 288, 3) := by decide +kernel
theorem dX7_rest_4 : decode cX7_rest 4 = .ok (.ifCond .ne 6, 3) := by decide +kernel
theorem dX7_rest_7 : decode cX7_rest 7 = .ok (.ldc 89, 2) := by decide +kernel
theorem dX7_rest_9 : decode cX7_rest 9 = .ok (.ireturn, 1) := by decide +kernel
theorem dX7_rest_10 : decode cX7_rest 10 = .ok (.aload_n 0, 1) := by decide +kernel
theorem dX7_rest_11 : decode cX7_rest 11 = .ok (.getfield 66, 3) := by decide +kernel
theorem dX7_rest_14 : decode cX7_rest 14 = .ok (.iload_n 1, 1) := by decide +kernel
theorem dX7_rest_15 : decode cX7_rest 15 = .ok (.aaload, 1) := by decide +kernel
theorem dX7_rest_16 : decode cX7_rest 16 = .ok (.astore_n 3, 1) := by decide +kernel
theorem dX7_rest_17 : decode cX7_rest 17 = .ok (.aload_n 3, 1) := by decide +kernel
theorem dX7_rest_18 : decode cX7_rest 18 = .ok (.getfield 291, 3) := by decide +kernel
theorem dX7_rest_21 : decode cX7_rest 21 = .ok (.ifCond .ne 6, 3) := by decide +kernel
theorem dX7_rest_24 : decode cX7_rest 24 = .ok (.ldc 213, 2) := by decide +kernel
theorem dX7_rest_26 : decode cX7_rest 26 = .ok (.ireturn, 1) := by decide +kernel
theorem dX7_rest_27 : decode cX7_rest 27 = .ok (.aload_n 3, 1) := by decide +kernel
theorem dX7_rest_28 : decode cX7_rest 28 = .ok (.getfield 291, 3) := by decide +kernel
theorem dX7_rest_31 : decode cX7_rest 31 = .ok (.iconst 3, 1) := by decide +kernel
theorem dX7_rest_32 : decode cX7_rest 32 = .ok (.if_icmp .eq 6, 3) := by decide +kernel
theorem dX7_rest_35 : decode cX7_rest 35 = .ok (.ldc 133, 2) := by decide +kernel
theorem dX7_rest_37 : decode cX7_rest 37 = .ok (.ireturn, 1) := by decide +kernel
theorem dX7_rest_38 : decode cX7_rest 38 = .ok (.iload_n 2, 1) := by decide +kernel
theorem dX7_rest_39 : decode cX7_rest 39 = .ok (.ifCond .ne 9, 3) := by decide +kernel
theorem dX7_rest_42 : decode cX7_rest 42 = .ok (.ldc_w 308, 3) := by decide +kernel
theorem dX7_rest_45 : decode cX7_rest 45 = .ok (.goto 9, 3) := by decide +kernel
theorem dX7_rest_48 : decode cX7_rest 48 = .ok (.aload_n 3, 1) := by decide +kernel
theorem dX7_rest_49 : decode cX7_rest 49 = .ok (.getfield 305, 3) := by decide +kernel
theorem dX7_rest_52 : decode cX7_rest 52 = .ok (.iload_n 2, 1) := by decide +kernel
theorem dX7_rest_53 : decode cX7_rest 53 = .ok (.irem, 1) := by decide +kernel
theorem dX7_rest_54 : decode cX7_rest 54 = .ok (.ireturn, 1) := by decide +kernel
theorem dX7_tell_0 : decode cX7_tell 0 = .ok (.aload_n 0, 1) := by decide +kernel
theorem dX7_tell_1 : decode cX7_tell 1 = .ok (.getfield 74, 3) := by decide +kernel
theorem dX7_tell_4 : decode cX7_tell 4 = .ok (.bipush 60, 2) := by decide +kernel
theorem dX7_tell_6 : decode cX7_tell 6 = .ok (.if_icmp .ne 6, 3) := by decide +kernel
theorem dX7_tell_9 : decode cX7_tell 9 = .ok (.ldc 93, 2) := by decide +kernel
theorem dX7_tell_11 : decode cX7_tell 11 = .ok (.ireturn, 1) := by decide +kernel
theorem dX7_tell_12 : decode cX7_tell 12 = .ok (.aload_n 0, 1) := by decide +kernel
theorem dX7_tell_13 : decode cX7_tell 13 = .ok (.getfield 70, 3) := by decide +kernel
theorem dX7_tell_16 : decode cX7_tell 16 = .ok (.aload_n 0, 1) := by decide +kernel
theorem dX7_tell_17 : decode cX7_tell 17 = .ok (.getfield 74, 3) := by decide +kernel
theorem dX7_tell_20 : decode cX7_tell 20 = .ok (.iload_n 1, 1) := by decide +kernel
theorem dX7_tell_21 : decode cX7_tell 21 = .ok (.iastore, 1) := by decide +kernel
theorem dX7_tell_22 : decode cX7_tell 22 = .ok (.aload_n 0, 1) := by decide +kernel
theorem dX7_tell_23 : decode cX7_tell 23 = .ok (.dup, 1) := by decide +kernel
theorem dX7_tell_24 : decode cX7_tell 24 = .ok (.getfield 74, 3) := by decide +kernel
theorem dX7_tell_27 : decode cX7_tell 27 = .ok (.iconst 1, 1) := by decide +kernel
theorem dX7_tell_28 : decode cX7_tell 28 = .ok (.iadd, 1) := by decide +kernel
theorem dX7_tell_29 : decode cX7_tell 29 = .ok (.putfield 74, 3) := by decide +kernel
theorem dX7_tell_32 : decode cX7_tell 32 = .ok (.aload_n 0, 1) := by decide +kernel
theorem dX7_tell_33 : decode cX7_tell 33 = .ok (.getfield 74, 3) := by decide +kernel
theorem dX7_tell_36 : decode cX7_tell 36 = .ok (.ireturn, 1) := by decide +kernel
theorem dX7_check_0 : decode cX7_check 0 = .ok (.aload_n 0, 1) := by decide +kernel
theorem dX7_check_1 : decode cX7_check 1 = .ok (.getfield 74, 3) := by decide +kernel
theorem dX7_check_4 : decode cX7_check 4 = .ok (.istore_n 2, 1) := by decide +kernel
theorem dX7_check_5 : decode cX7_check 5 = .ok (.aload_n 0, 1) := by decide +kernel
theorem dX7_check_6 : decode cX7_check 6 = .ok (.iconst 0, 1) := by decide +kernel
theorem dX7_check_7 : decode cX7_check 7 = .ok (.putfield 74, 3) := by decide +kernel
theorem dX7_check_10 : decode cX7_check 10 = .ok (.iload_n 1, 1) := by decide +kernel
theorem dX7_check_11 : decode cX7_check 11 = .ok (.iconst 1, 1) := by decide +kernel
theorem dX7_check_12 : decode cX7_check 12 = .ok (.bipush 30, 2) := by decide +kernel
theorem dX7_check_14 : decode cX7_check 14 = .ok (.invokestatic 148, 3) := by decide +kernel
theorem dX7_check_17 : decode cX7_check 17 = .ok (.ifCond .ne 6, 3) := by decide +kernel
theorem dX7_check_20 : decode cX7_check 20 = .ok (.ldc 89, 2) := by decide +kernel
theorem dX7_check_22 : decode cX7_check 22 = .ok (.ireturn, 1) := by decide +kernel
theorem dX7_check_23 : decode cX7_check 23 = .ok (.aload_n 0, 1) := by decide +kernel
theorem dX7_check_24 : decode cX7_check 24 = .ok (.getfield 25, 3) := by decide +kernel
theorem dX7_check_27 : decode cX7_check 27 = .ok (.ifCond .ne 7, 3) := by decide +kernel
theorem dX7_check_30 : decode cX7_check 30 = .ok (.ldc_w 308, 3) := by decide +kernel
theorem dX7_check_33 : decode cX7_check 33 = .ok (.ireturn, 1) := by decide +kernel
theorem dX7_check_34 : decode cX7_check 34 = .ok (.aload_n 0, 1) := by decide +kernel
theorem dX7_check_35 : decode cX7_check 35 = .ok (.getfield 19, 3) := by decide +kernel
theorem dX7_check_38 : decode cX7_check 38 = .ok (.aload_n 0, 1) := by decide +kernel
theorem dX7_check_39 : decode cX7_check 39 = .ok (.getfield 16, 3) := by decide +kernel
theorem dX7_check_42 : decode cX7_check 42 = .ok (.invokevirtual 196, 3) := by decide +kernel
theorem dX7_check_45 : decode cX7_check 45 = .ok (.iconst 2, 1) := by decide +kernel
theorem dX7_check_46 : decode cX7_check 46 = .ok (.iload_n 1, 1) := by decide +kernel
theorem dX7_check_47 : decode cX7_check 47 = .ok (.sipush 9999, 3) := by decide +kernel
theorem dX7_check_50 : decode cX7_check 50 = .ok (.aload_n 0, 1) := by decide +kernel
theorem dX7_check_51 : decode cX7_check 51 = .ok (.getfield 16, 3) := by decide +kernel
theorem dX7_check_54 : decode cX7_check 54 = .ok (.getfield 170, 3) := by decide +kernel
theorem dX7_check_57 : decode cX7_check 57 = .ok (.isub, 1) := by decide +kernel
theorem dX7_check_58 : decode cX7_check 58 = .ok (.invokestatic 155, 3) := by decide +kernel
theorem dX7_check_61 : decode cX7_check 61 = .ok (.imul, 1) := by decide +kernel
theorem dX7_check_62 : decode cX7_check 62 = .ok (.istore_n 3, 1) := by decide +kernel
theorem dX7_check_63 : decode cX7_check 63 = .ok (.iconst 0, 1) := by decide +kernel
theorem dX7_check_64 : decode cX7_check 64 = .ok (.istore 4, 2) := by decide +kernel
theorem dX7_check_66 : decode cX7_check 66 = .ok (.iload 4, 2) := by decide +kernel
theorem dX7_check_68 : decode cX7_check 68 = .ok (.iload_n 3, 1) := by decide +kernel
theorem dX7_check_69 : decode cX7_check 69 = .ok (.if_icmp .ge 76, 3) := by decide +kernel
theorem dX7_check_72 : decode cX7_check 72 = .ok (.aload_n 0, 1) := by decide +kernel
theorem dX7_check_73 : decode cX7_check 73 = .ok (.getfield 19, 3) := by decide +kernel
theorem dX7_check_76 : decode cX7_check 76 = .ok (.invokevirtual 192, 3) := by decide +kernel
theorem dX7_check_79 : decode cX7_check 79 = .ok (.iload 4, 2) := by decide +kernel
theorem dX7_check_81 : decode cX7_check 81 = .ok (.iload_n 2, 1) := by decide +kernel
theorem dX7_check_82 : decode cX7_check 82 = .ok (.if_icmp .ge 20, 3) := by decide +kernel
theorem dX7_check_85 : decode cX7_check 85 = .ok (.aload_n 0, 1) := by decide +kernel
theorem dX7_check_86 : decode cX7_check 86 = .ok (.getfield 70, 3) := by decide +kernel
theorem dX7_check_89 : decode cX7_check 89 = .ok (.iload 4, 2) := by decide +kernel
theorem dX7_check_91 : decode cX7_check 91 = .ok (.iaload, 1) := by decide +kernel
theorem dX7_check_92 : decode cX7_check 92 = .ok (.aload_n 0, 1) := by decide +kernel
theorem dX7_check_93 : decode cX7_check 93 = .ok (.getfield 19, 3) := by decide +kernel
theorem dX7_check_96 : decode cX7_check 96 = .ok (.invokevirtual 309, 3) := by decide +kernel
theorem dX7_check_99 : decode cX7_check 99 = .ok (.if_icmp .eq 8, 3) := by decide +kernel
theorem dX7_check_102 : decode cX7_check 102 = .ok (.iconst 1, 1) := by decide +kernel
theorem dX7_check_103 : decode cX7_check 103 = .ok (.iload 4, 2) := by decide +kernel
theorem dX7_check_105 : decode cX7_check 105 = .ok (.iadd, 1) := by decide +kernel
theorem dX7_check_106 : decode cX7_check 106 = .ok (.ireturn, 1) := by decide +kernel
theorem dX7_check_107 : decode cX7_check 107 = .ok (.iload 4, 2) := by decide +kernel
theorem dX7_check_109 : decode cX7_check 109 = .ok (.iconst 1, 1) := by decide +kernel
theorem dX7_check_110 : decode cX7_check 110 = .ok (.iadd, 1) := by decide +kernel
theorem dX7_check_111 : decode cX7_check 111 = .ok (.iload_n 2, 1) := by decide +kernel
theorem dX7_check_112 : decode cX7_check 112 = .ok (.if_icmp .ge 22, 3) := by decide +kernel
theorem dX7_check_115 : decode cX7_check 115 = .ok (.aload_n 0, 1) := by decide +kernel
theorem dX7_check_116 : decode cX7_check 116 = .ok (.getfield 70, 3) := by decide +kernel
theorem dX7_check_119 : decode cX7_check 119 = .ok (.iload 4, 2) := by decide +kernel
theorem dX7_check_121 : decode cX7_check 121 = .ok (.iconst 1, 1) := by decide +kernel
theorem dX7_check_122 : decode cX7_check 122 = .ok (.iadd, 1) := by decide +kernel
theorem dX7_check_123 : decode cX7_check 123 = .ok (.iaload, 1) := by decide +kernel
theorem dX7_check_124 : decode cX7_check 124 = .ok (.aload_n 0, 1) := by decide +kernel
theorem dX7_check_125 : decode cX7_check 125 = .ok (.getfield 19, 3) := by decide +kernel
theorem dX7_check_128 : decode cX7_check 128 = .ok (.getfield 167, 3) := by decide +kernel
theorem dX7_check_131 : decode cX7_check 131 = .ok (.if_icmp .eq 8, 3) := by decide +kernel
theorem dX7_check_134 : decode cX7_check 134 = .ok (.iconst 2, 1) := by decide +kernel
theorem dX7_check_135 : decode cX7_check 135 = .ok (.iload 4, 2) := by decide +kernel
theorem dX7_check_137 : decode cX7_check 137 = .ok (.iadd, 1) := by decide +kernel
theorem dX7_check_138 : decode cX7_check 138 = .ok (.ireturn, 1) := by decide +kernel
theorem dX7_check_139 : decode cX7_check 139 = .ok (.iinc 4 2, 3) := by decide +kernel
theorem dX7_check_142 : decode cX7_check 142 = .ok (.goto (-76), 3) := by decide +kernel
theorem dX7_check_145 : decode cX7_check 145 = .ok (.iload_n 2, 1) := by decide +kernel
theorem dX7_check_146 : decode cX7_check 146 = .ok (.iload_n 3, 1) := by decide +kernel
theorem dX7_check_147 : decode cX7_check 147 = .ok (.if_icmp .le 9, 3) := by decide +kernel
theorem dX7_check_150 : decode cX7_check 150 = .ok (.iconst 1, 1) := by decide +kernel
theorem dX7_check_151 : decode cX7_check 151 = .ok (.iload_n 3, 1) := by decide +kernel
theorem dX7_check_152 : decode cX7_check 152 = .ok (.iadd, 1) := by decide +kernel
theorem dX7_check_153 : decode cX7_check 153 = .ok (.goto 4, 3) := by decide +kernel
theorem dX7_check_156 : decode cX7_check 156 = .ok (.iconst 0, 1) := by decide +kernel
theorem dX7_check_157 : decode cX7_check 157 = .ok (.ireturn, 1) := by decide +kernel
theorem dX7_keep_0 : decode cX7_keep 0 = .ok (.aload_n 0, 1) := by decide +kernel
theorem dX7_keep_1 : decode cX7_keep 1 = .ok (.getfield 16, 3) := by decide +kernel
theorem dX7_keep_4 : decode cX7_keep 4 = .ok (.aload_n 0, 1) := by decide +kernel
theorem dX7_keep_5 : decode cX7_keep 5 = .ok (.getfield 10, 3) := by decide +kernel
theorem dX7_keep_8 : decode cX7_keep 8 = .ok (.invokevirtual 196, 3) := by decide +kernel
theorem dX7_keep_11 : decode cX7_keep 11 = .ok (.aload_n 0, 1) := by decide +kernel
theorem dX7_keep_12 : decode cX7_keep 12 = .ok (.aload_n 0, 1) := by decide +kernel
theorem dX7_keep_13 : decode cX7_keep 13 = .ok (.getfield 35, 3) := by decide +kernel
theorem dX7_keep_16 : decode cX7_keep 16 = .ok (.putfield 39, 3) := by decide +kernel
theorem dX7_keep_19 : decode cX7_keep 19 = .ok (.aload_n 0, 1) := by decide +kernel
theorem dX7_keep_20 : decode cX7_keep 20 = .ok (.iconst 1, 1) := by decide +kernel
theorem dX7_keep_21 : decode cX7_keep 21 = .ok (.putfield 25, 3) := by decide +kernel
theorem dX7_keep_24 : decode cX7_keep 24 = .ok (.aload_n 0, 1) := by decide +kernel
theorem dX7_keep_25 : decode cX7_keep 25 = .ok (.getfield 10, 3) := by decide +kernel
theorem dX7_keep_28 : decode cX7_keep 28 = .ok (.getfield 90, 3) := by decide +kernel
theorem dX7_keep_31 : decode cX7_keep 31 = .ok (.ireturn, 1) := by decide +kernel
theorem dX7_back_0 : decode cX7_back 0 = .ok (.aload_n 0, 1) := by decide +kernel
theorem dX7_back_1 : decode cX7_back 1 = .ok (.getfield 25, 3) := by decide +kernel
theorem dX7_back_4 : decode cX7_back 4 = .ok (.ifCond .ne 7, 3) := by decide +kernel
theorem dX7_back_7 : decode cX7_back 7 = .ok (.ldc_w 308, 3) := by decide +kernel
theorem dX7_back_10 : decode cX7_back 10 = .ok (.ireturn, 1) := by decide +kernel
theorem dX7_back_11 : decode cX7_back 11 = .ok (.aload_n 0, 1) := by decide +kernel
theorem dX7_back_12 : decode cX7_back 12 = .ok (.getfield 10, 3) := by decide +kernel
theorem dX7_back_15 : decode cX7_back 15 = .ok (.aload_n 0, 1) := by decide +kernel
theorem dX7_back_16 : decode cX7_back 16 = .ok (.getfield 16, 3) := by decide +kernel
theorem dX7_back_19 : decode cX7_back 19 = .ok (.invokevirtual 196, 3) := by decide +kernel
theorem dX7_back_22 : decode cX7_back 22 = .ok (.aload_n 0, 1) := by decide +kernel
theorem dX7_back_23 : decode cX7_back 23 = .ok (.aload_n 0, 1) := by decide +kernel
theorem dX7_back_24 : decode cX7_back 24 = .ok (.getfield 39, 3) := by decide +kernel
theorem dX7_back_27 : decode cX7_back 27 = .ok (.putfield 35, 3) := by decide +kernel
theorem dX7_back_30 : decode cX7_back 30 = .ok (.aload_n 0, 1) := by decide +kernel
theorem dX7_back_31 : decode cX7_back 31 = .ok (.getfield 10, 3) := by decide +kernel
theorem dX7_back_34 : decode cX7_back 34 = .ok (.getfield 90, 3) := by decide +kernel
theorem dX7_back_37 : decode cX7_back 37 = .ok (.ireturn, 1) := by decide +kernel
theorem dX7_count_0 : decode cX7_count 0 = .ok (.iload_n 1, 1) := by decide +kernel
theorem dX7_count_1 : decode cX7_count 1 = .ok (.tableswitch 105 0 7 #[47, 55, 63, 71, 79, 84, 89, 97], 47) := by decide +kernel
theorem dX7_count_48 : decode cX7_count 48 = .ok (.aload_n 0, 1) := by decide +kernel
theorem dX7_count_49 : decode cX7_count 49 = .ok (.getfield 10, 3) := by decide +kernel
theorem dX7_count_52 : decode cX7_count 52 = .ok (.getfield 90, 3) := by decide +kernel
theorem dX7_count_55 : decode cX7_count 55 = .ok (.ireturn, 1) := by decide +kernel
theorem dX7_count_56 : decode cX7_count 56 = .ok (.aload_n 0, 1) := by decide +kernel
theorem dX7_count_57 : decode cX7_count 57 = .ok (.getfield 10, 3) := by decide +kernel
theorem dX7_count_60 : decode cX7_count 60 = .ok (.getfield 170, 3) := by decide +kernel
theorem dX7_count_63 : decode cX7_count 63 = .ok (.ireturn, 1) := by decide +kernel
theorem dX7_count_64 : decode cX7_count 64 = .ok (.aload_n 0, 1) := by decide +kernel
theorem dX7_count_65 : decode cX7_count 65 = .ok (.getfield 10, 3) := by decide +kernel
theorem dX7_count_68 : decode cX7_count 68 = .ok (.getfield 152, 3) := by decide +kernel
theorem dX7_count_71 : decode cX7_count 71 = .ok (.ireturn, 1) := by decide +kernel
theorem dX7_count_72 : decode cX7_count 72 = .ok (.aload_n 0, 1) := by decide +kernel
theorem dX7_count_73 : decode cX7_count 73 = .ok (.getfield 10, 3) := by decide +kernel
theorem dX7_count_76 : decode cX7_count 76 = .ok (.invokevirtual 312, 3) := by decide +kernel
theorem dX7_count_79 : decode cX7_count 79 = .ok (.ireturn, 1) := by decide +kernel
theorem dX7_count_80 : decode cX7_count 80 = .ok (.aload_n 0, 1) := by decide +kernel
theorem dX7_count_81 : decode cX7_count 81 = .ok (.getfield 35, 3) := by decide +kernel
theorem dX7_count_84 : decode cX7_count 84 = .ok (.ireturn, 1) := by decide +kernel
theorem dX7_count_85 : decode cX7_count 85 = .ok (.aload_n 0, 1) := by decide +kernel
theorem dX7_count_86 : decode cX7_count 86 = .ok (.getfield 74, 3) := by decide +kernel
theorem dX7_count_89 : decode cX7_count 89 = .ok (.ireturn, 1) := by decide +kernel
theorem dX7_count_90 : decode cX7_count 90 = .ok (.aload_n 0, 1) := by decide +kernel
theorem dX7_count_91 : decode cX7_count 91 = .ok (.getfield 45, 3) := by decide +kernel
theorem dX7_count_94 : decode cX7_count 94 = .ok (.getfield 231, 3) := by decide +kernel
theorem dX7_count_97 : decode cX7_count 97 = .ok (.ireturn, 1) := by decide +kernel
theorem dX7_count_98 : decode cX7_count 98 = .ok (.aload_n 0, 1) := by decide +kernel
theorem dX7_count_99 : decode cX7_count 99 = .ok (.getfield 10, 3) := by decide +kernel
theorem dX7_count_102 : decode cX7_count 102 = .ok (.getfield 164, 3) := by decide +kernel
theorem dX7_count_105 : decode cX7_count 105 = .ok (.ireturn, 1) := by decide +kernel
theorem dX7_count_106 : decode cX7_count 106 = .ok (.ldc 89, 2) := by decide +kernel
theorem dX7_count_108 : decode cX7_count 108 = .ok (.ireturn, 1) := by decide +kernel
theorem dX7_isWithin_0 : decode cX7_isWithin 0 = .ok (.iload_n 0, 1) := by decide +kernel
theorem dX7_isWithin_1 : decode cX7_isWithin 1 = .ok (.iload_n 1, 1) := by decide +kernel
theorem dX7_isWithin_2 : decode cX7_isWithin 2 = .ok (.if_icmp .lt 12, 3) := by decide +kernel
theorem dX7_isWithin_5 : decode cX7_isWithin 5 = .ok (.iload_n 0, 1) := by decide +kernel
theorem dX7_isWithin_6 : decode cX7_isWithin 6 = .ok (.iload_n 2, 1) := by decide +kernel
theorem dX7_isWithin_7 : decode cX7_isWithin 7 = .ok (.if_icmp .gt 7, 3) := by decide +kernel
theorem dX7_isWithin_10 : decode cX7_isWithin 10 = .ok (.iconst 1, 1) := by decide +kernel
theorem dX7_isWithin_11 : decode cX7_isWithin 11 = .ok (.goto 4, 3) := by decide +kernel
theorem dX7_isWithin_14 : decode cX7_isWithin 14 = .ok (.iconst 0, 1) := by decide +kernel
theorem dX7_isWithin_15 : decode cX7_isWithin 15 = .ok (.ireturn, 1) := by decide +kernel
theorem dX7_held_0 : decode cX7_held 0 = .ok (.iload_n 1, 1) := by decide +kernel
theorem dX7_held_1 : decode cX7_held 1 = .ok (.iload_n 2, 1) := by decide +kernel
theorem dX7_held_2 : decode cX7_held 2 = .ok (.iload_n 0, 1) := by decide +kernel
theorem dX7_held_3 : decode cX7_held 3 = .ok (.invokestatic 155, 3) := by decide +kernel
theorem dX7_held_6 : decode cX7_held 6 = .ok (.invokestatic 315, 3) := by decide +kernel
theorem dX7_held_9 : decode cX7_held 9 = .ok (.ireturn, 1) := by decide +kernel
theorem dX7_isKind_0 : decode cX7_isKind 0 = .ok (.iload_n 0, 1) := by decide +kernel
theorem dX7_isKind_1 : decode cX7_isKind 1 = .ok (.iconst 0, 1) := by decide +kernel
theorem dX7_isKind_2 : decode cX7_isKind 2 = .ok (.iconst 5, 1) := by decide +kernel
theorem dX7_isKind_3 : decode cX7_isKind 3 = .ok (.invokestatic 148, 3) := by decide +kernel
theorem dX7_isKind_6 : decode cX7_isKind 6 = .ok (.ireturn, 1) := by decide +kernel
theorem dX7_isThick_0 : decode cX7_isThick 0 = .ok (.iload_n 0, 1) := by decide +kernel
theorem dX7_isThick_1 : decode cX7_isThick 1 = .ok (.iconst 1, 1) := by decide +kernel
theorem dX7_isThick_2 : decode cX7_isThick 2 = .ok (.bipush 99, 2) := by decide +kernel
theorem dX7_isThick_4 : decode cX7_isThick 4 = .ok (.invokestatic 148, 3) := by decide +kernel
theorem dX7_isThick_7 : decode cX7_isThick 7 = .ok (.ireturn, 1) := by decide +kernel
theorem dX7_isTown_0 : decode cX7_isTown 0 = .ok (.iload_n 0, 1) := by decide +kernel
theorem dX7_isTown_1 : decode cX7_isTown 1 = .ok (.iconst 0, 1) := by decide +kernel
theorem dX7_isTown_2 : decode cX7_isTown 2 = .ok (.bipush 9, 2) := by decide +kernel
theorem dX7_isTown_4 : decode cX7_isTown 4 = .ok (.invokestatic 148, 3) := by decide +kernel
theorem dX7_isTown_7 : decode cX7_isTown 7 = .ok (.ireturn, 1) := by decide +kernel
theorem dX7_isSheet_0 : decode cX7_isSheet 0 = .ok (.iload_n 0, 1) := by decide +kernel
theorem dX7_isSheet_1 : decode cX7_isSheet 1 = .ok (.iconst 0, 1) := by decide +kernel
theorem dX7_isSheet_2 : decode cX7_isSheet 2 = .ok (.iconst 3, 1) := by decide +kernel
theorem dX7_isSheet_3 : decode cX7_isSheet 3 = .ok (.invokestatic 148, 3) := by decide +kernel
theorem dX7_isSheet_6 : decode cX7_isSheet 6 = .ok (.ireturn, 1) := by decide +kernel
theorem dX7_isSlot_0 : decode cX7_isSlot 0 = .ok (.iload_n 0, 1) := by decide +kernel
theorem dX7_isSlot_1 : decode cX7_isSlot 1 = .ok (.iconst 0, 1) := by decide +kernel
theorem dX7_isSlot_2 : decode cX7_isSlot 2 = .ok (.iconst 4, 1) := by decide +kernel
theorem dX7_isSlot_3 : decode cX7_isSlot 3 = .ok (.invokestatic 148, 3) := by decide +kernel
theorem dX7_isSlot_6 : decode cX7_isSlot 6 = .ok (.ireturn, 1) := by decide +kernel
theorem dX7_think_0 : decode cX7_think 0 = .ok (.aload_n 0, 1) := by decide +kernel
theorem dX7_think_1 : decode cX7_think 1 = .ok (.getfield 19, 3) := by decide +kernel
theorem dX7_think_4 : decode cX7_think 4 = .ok (.aload_n 0, 1) := by decide +kernel
theorem dX7_think_5 : decode cX7_think 5 = .ok (.getfield 10, 3) := by decide +kernel
theorem dX7_think_8 : decode cX7_think 8 = .ok (.invokevirtual 196, 3) := by decide +kernel
theorem dX7_think_11 : decode cX7_think 11 = .ok (.aload_n 0, 1) := by decide +kernel
theorem dX7_think_12 : decode cX7_think 12 = .ok (.getfield 19, 3) := by decide +kernel
theorem dX7_think_15 : decode cX7_think 15 = .ok (.iload_n 1, 1) := by decide +kernel
theorem dX7_think_16 : decode cX7_think 16 = .ok (.invokevirtual 173, 3) := by decide +kernel
theorem dX7_think_19 : decode cX7_think 19 = .ok (.return_, 1) := by decide +kernel
theorem dX7_lastTextOf_0 : decode cX7_lastTextOf 0 = .ok (.aload_n 0, 1) := by decide +kernel
theorem dX7_lastTextOf_1 : decode cX7_lastTextOf 1 = .ok (.getfield 35, 3) := by decide +kernel
theorem dX7_lastTextOf_4 : decode cX7_lastTextOf 4 = .ok (.iconst 1, 1) := by decide +kernel
theorem dX7_lastTextOf_5 : decode cX7_lastTextOf 5 = .ok (.isub, 1) := by decide +kernel
theorem dX7_lastTextOf_6 : decode cX7_lastTextOf 6 = .ok (.istore_n 2, 1) := by decide +kernel
theorem dX7_lastTextOf_7 : decode cX7_lastTextOf 7 = .ok (.iload_n 2, 1) := by decide +kernel
theorem dX7_lastTextOf_8 : decode cX7_lastTextOf 8 = .ok (.ifCond .lt 33, 3) := by decide +kernel
theorem dX7_lastTextOf_11 : decode cX7_lastTextOf 11 = .ok (.aload_n 0, 1) := by decide +kernel
theorem dX7_lastTextOf_12 : decode cX7_lastTextOf 12 = .ok (.getfield 31, 3) := by decide +kernel
theorem dX7_lastTextOf_15 : decode cX7_lastTextOf 15 = .ok (.iload_n 2, 1) := by decide +kernel
theorem dX7_lastTextOf_16 : decode cX7_lastTextOf 16 = .ok (.aaload, 1) := by decide +kernel
theorem dX7_lastTextOf_17 : decode cX7_lastTextOf 17 = .ok (.ifnull 18, 3) := by decide +kernel
theorem dX7_lastTextOf_20 : decode cX7_lastTextOf 20 = .ok (.aload_n 0, 1) := by decide +kernel
theorem dX7_lastTextOf_21 : decode cX7_lastTextOf 21 = .ok (.getfield 31, 3) := by decide +kernel
theorem dX7_lastTextOf_24 : decode cX7_lastTextOf 24 = .ok (.iload_n 2, 1) := by decide +kernel
theorem dX7_lastTextOf_25 : decode cX7_lastTextOf 25 = .ok (.aaload, 1) := by decide +kernel
theorem dX7_lastTextOf_26 : decode cX7_lastTextOf 26 = .ok (.getfield 244, 3) := by decide +kernel
theorem dX7_lastTextOf_29 : decode cX7_lastTextOf 29 = .ok (.iload_n 1, 1) := by decide +kernel
theorem dX7_lastTextOf_30 : decode cX7_lastTextOf 30 = .ok (.if_icmp .ne 5, 3) := by decide +kernel
theorem dX7_lastTextOf_33 : decode cX7_lastTextOf 33 = .ok (.iload_n 2, 1) := by decide +kernel
theorem dX7_lastTextOf_34 : decode cX7_lastTextOf 34 = .ok (.ireturn, 1) := by decide +kernel
theorem dX7_lastTextOf_35 : decode cX7_lastTextOf 35 = .ok (.iinc 2 (-1), 3) := by decide +kernel
theorem dX7_lastTextOf_38 : decode cX7_lastTextOf 38 = .ok (.goto (-31), 3) := by decide +kernel
theorem dX7_lastTextOf_41 : decode cX7_lastTextOf 41 = .ok (.ldc 195, 2) := by decide +kernel
theorem dX7_lastTextOf_43 : decode cX7_lastTextOf 43 = .ok (.ireturn, 1) := by decide +kernel
theorem dX7_lawOf_0 : decode cX7_lawOf 0 = .ok (.aload_n 0, 1) := by decide +kernel
theorem dX7_lawOf_1 : decode cX7_lawOf 1 = .ok (.iload_n 1, 1) := by decide +kernel
theorem dX7_lawOf_2 : decode cX7_lawOf 2 = .ok (.invokevirtual 254, 3) := by decide +kernel
theorem dX7_lawOf_5 : decode cX7_lawOf 5 = .ok (.istore_n 2, 1) := by decide +kernel
theorem dX7_lawOf_6 : decode cX7_lawOf 6 = .ok (.iload_n 2, 1) := by decide +kernel
theorem dX7_lawOf_7 : decode cX7_lawOf 7 = .ok (.ldc 195, 2) := by decide +kernel
theorem dX7_lawOf_9 : decode cX7_lawOf 9 = .ok (.if_icmp .ne 7, 3) := by decide +kernel
theorem dX7_lawOf_12 : decode cX7_lawOf 12 = .ok (.aconst_null, 1) := by decide +kernel
theorem dX7_lawOf_13 : decode cX7_lawOf 13 = .ok (.goto 9, 3) := by decide +kernel
theorem dX7_lawOf_16 : decode cX7_lawOf 16 = .ok (.aload_n 0, 1) := by decide +kernel
theorem dX7_lawOf_17 : decode cX7_lawOf 17 = .ok (.getfield 31, 3) := by decide +kernel
theorem dX7_lawOf_20 : decode cX7_lawOf 20 = .ok (.iload_n 2, 1) := by decide +kernel
theorem dX7_lawOf_21 : decode cX7_lawOf 21 = .ok (.aaload, 1) := by decide +kernel
theorem dX7_lawOf_22 : decode cX7_lawOf 22 = .ok (.areturn, 1) := by decide +kernel
theorem dX7_differences_0 : decode cX7_differences 0 = .ok (.iconst 0, 1) := by decide +kernel
theorem dX7_differences_1 : decode cX7_differences 1 = .ok (.istore_n 2, 1) := by decide +kernel
theorem dX7_differences_2 : decode cX7_differences 2 = .ok (.iconst 0, 1) := by decide +kernel
theorem dX7_differences_3 : decode cX7_differences 3 = .ok (.istore_n 3, 1) := by decide +kernel
theorem dX7_differences_4 : decode cX7_differences 4 = .ok (.iload_n 3, 1) := by decide +kernel
theorem dX7_differences_5 : decode cX7_differences 5 = .ok (.aload_n 1, 1) := by decide +kernel
theorem dX7_differences_6 : decode cX7_differences 6 = .ok (.getfield 270, 3) := by decide +kernel
theorem dX7_differences_9 : decode cX7_differences 9 = .ok (.if_icmp .ge 57, 3) := by decide +kernel
theorem dX7_differences_12 : decode cX7_differences 12 = .ok (.aload_n 1, 1) := by decide +kernel
theorem dX7_differences_13 : decode cX7_differences 13 = .ok (.iload_n 3, 1) := by decide +kernel
theorem dX7_differences_14 : decode cX7_differences 14 = .ok (.invokevirtual 273, 3) := by decide +kernel
theorem dX7_differences_17 : decode cX7_differences 17 = .ok (.ifCond .eq 43, 3) := by decide +kernel
theorem dX7_differences_20 : decode cX7_differences 20 = .ok (.aload_n 0, 1) := by decide +kernel
theorem dX7_differences_21 : decode cX7_differences 21 = .ok (.iload_n 3, 1) := by decide +kernel
theorem dX7_differences_22 : decode cX7_differences 22 = .ok (.invokevirtual 98, 3) := by decide +kernel
theorem dX7_differences_25 : decode cX7_differences 25 = .ok (.ifCond .eq 17, 3) := by decide +kernel
theorem dX7_differences_28 : decode cX7_differences 28 = .ok (.aload_n 0, 1) := by decide +kernel
theorem dX7_differences_29 : decode cX7_differences 29 = .ok (.getfield 107, 3) := by decide +kernel
theorem dX7_differences_32 : decode cX7_differences 32 = .ok (.aload_n 0, 1) := by decide +kernel
theorem dX7_differences_33 : decode cX7_differences 33 = .ok (.getfield 142, 3) := by decide +kernel
theorem dX7_differences_36 : decode cX7_differences 36 = .ok (.iload_n 3, 1) := by decide +kernel
theorem dX7_differences_37 : decode cX7_differences 37 = .ok (.iaload, 1) := by decide +kernel
theorem dX7_differences_38 : decode cX7_differences 38 = .ok (.iaload, 1) := by decide +kernel
theorem dX7_differences_39 : decode cX7_differences 39 = .ok (.goto 4, 3) := by decide +kernel
theorem dX7_differences_42 : decode cX7_differences 42 = .ok (.iconst 0, 1) := by decide +kernel
theorem dX7_differences_43 : decode cX7_differences 43 = .ok (.istore 4, 2) := by decide +kernel
theorem dX7_differences_45 : decode cX7_differences 45 = .ok (.iload_n 2, 1) := by decide +kernel
theorem dX7_differences_46 : decode cX7_differences 46 = .ok (.iload 4, 2) := by decide +kernel
theorem dX7_differences_48 : decode cX7_differences 48 = .ok (.aload_n 1, 1) := by decide +kernel
theorem dX7_differences_49 : decode cX7_differences 49 = .ok (.getfield 265, 3) := by decide +kernel
theorem dX7_differences_52 : decode cX7_differences 52 = .ok (.iload_n 3, 1) := by decide +kernel
theorem dX7_differences_53 : decode cX7_differences 53 = .ok (.iaload, 1) := by decide +kernel
theorem dX7_differences_54 : decode cX7_differences 54 = .ok (.isub, 1) := by decide +kernel
theorem dX7_differences_55 : decode cX7_differences 55 = .ok (.invokestatic 200, 3) := by decide +kernel
theorem dX7_differences_58 : decode cX7_differences 58 = .ok (.iadd, 1) := by decide +kernel
theorem dX7_differences_59 : decode cX7_differences 59 = .ok (.istore_n 2, 1) := by decide +kernel
theorem dX7_differences_60 : decode cX7_differences 60 = .ok (.iinc 3 1, 3) := by decide +kernel
theorem dX7_differences_63 : decode cX7_differences 63 = .ok (.goto (-59), 3) := by decide +kernel
theorem dX7_differences_66 : decode cX7_differences 66 = .ok (.iload_n 2, 1) := by decide +kernel
theorem dX7_differences_67 : decode cX7_differences 67 = .ok (.ireturn, 1) := by decide +kernel
theorem dX8_init_0 : decode cX8_init 0 = .ok (.aload_n 0, 1) := by decide +kernel
theorem dX8_init_1 : decode cX8_init 1 = .ok (.invokespecial 1, 3) := by decide +kernel
theorem dX8_init_4 : decode cX8_init 4 = .ok (.aload_n 0, 1) := by decide +kernel
theorem dX8_init_5 : decode cX8_init 5 = .ok (.sipush 3076, 3) := by decide +kernel
theorem dX8_init_8 : decode cX8_init 8 = .ok (.newarray .int, 2) := by decide +kernel
theorem dX8_init_10 : decode cX8_init 10 = .ok (.putfield 7, 3) := by decide +kernel
theorem dX8_init_13 : decode cX8_init 13 = .ok (.aload_n 0, 1) := by decide +kernel
theorem dX8_init_14 : decode cX8_init 14 = .ok (.sipush 3076, 3) := by decide +kernel
theorem dX8_init_17 : decode cX8_init 17 = .ok (.newarray .int, 2) := by decide +kernel
theorem dX8_init_19 : decode cX8_init 19 = .ok (.putfield 13, 3) := by decide +kernel
theorem dX8_init_22 : decode cX8_init 22 = .ok (.aload_n 0, 1) := by decide +kernel
theorem dX8_init_23 : decode cX8_init 23 = .ok (.sipush 3076, 3) := by decide +kernel
theorem dX8_init_26 : decode cX8_init 26 = .ok (.newarray .int, 2) := by decide +kernel
theorem dX8_init_28 : decode cX8_init 28 = .ok (.putfield 16, 3) := by decide +kernel
theorem dX8_init_31 : decode cX8_init 31 = .ok (.aload_n 0, 1) := by decide +kernel
theorem dX8_init_32 : decode cX8_init 32 = .ok (.iconst 4, 1) := by decide +kernel
theorem dX8_init_33 : decode cX8_init 33 = .ok (.newarray .int, 2) := by decide +kernel
theorem dX8_init_35 : decode cX8_init 35 = .ok (.putfield 19, 3) := by decide +kernel
theorem dX8_init_38 : decode cX8_init 38 = .ok (.aload_n 0, 1) := by decide +kernel
theorem dX8_init_39 : decode cX8_init 39 = .ok (.iconst 4, 1) := by decide +kernel
theorem dX8_init_40 : decode cX8_init 40 = .ok (.newarray .int, 2) := by decide +kernel
theorem dX8_init_42 : decode cX8_init 42 = .ok (.putfield 22, 3) := by decide +kernel
theorem dX8_init_45 : decode cX8_init 45 = .ok (.aload_n 0, 1) := by decide +kernel
theorem dX8_init_46 : decode cX8_init 46 = .ok (.bipush 96, 2) := by decide +kernel
theorem dX8_init_48 : decode cX8_init 48 = .ok (.newarray .int, 2) := by decide +kernel
theorem dX8_init_50 : decode cX8_init 50 = .ok (.putfield 25, 3) := by decide +kernel
theorem dX8_init_53 : decode cX8_init 53 = .ok (.aload_n 0, 1) := by decide +kernel
theorem dX8_init_54 : decode cX8_init 54 = .ok (.iconst 5, 1) := by decide +kernel
theorem dX8_init_55 : decode cX8_init 55 = .ok (.newarray .int, 2) := by decide +kernel
theorem dX8_init_57 : decode cX8_init 57 = .ok (.putfield 28, 3) := by decide +kernel
theorem dX8_init_60 : decode cX8_init 60 = .ok (.aload_n 0, 1) := by decide +kernel
theorem dX8_init_61 : decode cX8_init 61 = .ok (.iconst 5, 1) := by decide +kernel
theorem dX8_init_62 : decode cX8_init 62 = .ok (.newarray .int, 2) := by decide +kernel
theorem dX8_init_64 : decode cX8_init 64 = .ok (.putfield 31, 3) := by decide +kernel
theorem dX8_init_67 : decode cX8_init 67 = .ok (.aload_n 0, 1) := by decide +kernel
theorem dX8_init_68 : decode cX8_init 68 = .ok (.iconst 5, 1) := by decide +kernel
theorem dX8_init_69 : decode cX8_init 69 = .ok (.newarray .int, 2) := by decide +kernel
theorem dX8_init_71 : decode cX8_init 71 = .ok (.putfield 34, 3) := by decide +kernel
theorem dX8_init_74 : decode cX8_init 74 = .ok (.aload_n 0, 1) := by decide +kernel
theorem dX8_init_75 : decode cX8_init 75 = .ok (.iconst 5, 1) := by decide +kernel
theorem dX8_init_76 : decode cX8_init 76 = .ok (.newarray .int, 2) := by decide +kernel
theorem dX8_init_78 : decode cX8_init 78 = .ok (.putfield 37, 3) := by decide +kernel
theorem dX8_init_81 : decode cX8_init 81 = .ok (.aload_n 0, 1) := by decide +kernel
theorem dX8_init_82 : decode cX8_init 82 = .ok (.bipush 120, 2) := by decide +kernel
theorem dX8_init_84 : decode cX8_init 84 = .ok (.newarray .int, 2) := by decide +kernel
theorem dX8_init_86 : decode cX8_init 86 = .ok (.putfield 40, 3) := by decide +kernel
theorem dX8_init_89 : decode cX8_init 89 = .ok (.aload_n 0, 1) := by decide +kernel
theorem dX8_init_90 : decode cX8_init 90 = .ok (.iconst (-1), 1) := by decide +kernel
theorem dX8_init_91 : decode cX8_init 91 = .ok (.putfield 43, 3) := by decide +kernel
theorem dX8_init_94 : decode cX8_init 94 = .ok (.aload_n 0, 1) := by decide +kernel
theorem dX8_init_95 : decode cX8_init 95 = .ok (.sipush 4096, 3) := by decide +kernel
theorem dX8_init_98 : decode cX8_init 98 = .ok (.newarray .int, 2) := by decide +kernel
theorem dX8_init_100 : decode cX8_init 100 = .ok (.putfield 47, 3) := by decide +kernel
theorem dX8_init_103 : decode cX8_init 103 = .ok (.aload_n 0, 1) := by decide +kernel
theorem dX8_init_104 : decode cX8_init 104 = .ok (.sipush 4096, 3) := by decide +kernel
theorem dX8_init_107 : decode cX8_init 107 = .ok (.newarray .int, 2) := by decide +kernel
theorem dX8_init_109 : decode cX8_init 109 = .ok (.putfield 50, 3) := by decide +kernel
theorem dX8_init_112 : decode cX8_init 112 = .ok (.aload_n 0, 1) := by decide +kernel
theorem dX8_init_113 : decode cX8_init 113 = .ok (.bipush 76, 2) := by decide +kernel
theorem dX8_init_115 : decode cX8_init 115 = .ok (.newarray .int, 2) := by decide +kernel
theorem dX8_init_117 : decode cX8_init 117 = .ok (.putfield 53, 3) := by decide +kernel
theorem dX8_init_120 : decode cX8_init 120 = .ok (.aload_n 0, 1) := by decide +kernel
theorem dX8_init_121 : decode cX8_init 121 = .ok (.bipush 96, 2) := by decide +kernel
theorem dX8_init_123 : decode cX8_init 123 = .ok (.newarray .int, 2) := by decide +kernel
theorem dX8_init_125 : decode cX8_init 125 = .ok (.putfield 56, 3) := by decide +kernel
theorem dX8_init_128 : decode cX8_init 128 = .ok (.aload_n 0, 1) := by decide +kernel
theorem dX8_init_129 : decode cX8_init 129 = .ok (.sipush 128, 3) := by decide +kernel
theorem dX8_init_132 : decode cX8_init 132 = .ok (.newarray .int, 2) := by decide +kernel
theorem dX8_init_134 : decode cX8_init 134 = .ok (.putfield 59, 3) := by decide +kernel
theorem dX8_init_137 : decode cX8_init 137 = .ok (.aload_n 0, 1) := by decide +kernel
theorem dX8_init_138 : decode cX8_init 138 = .ok (.bipush 100, 2) := by decide +kernel
theorem dX8_init_140 : decode cX8_init 140 = .ok (.newarray .int, 2) := by decide +kernel
theorem dX8_init_142 : decode cX8_init 142 = .ok (.putfield 62, 3) := by decide +kernel
theorem dX8_init_145 : decode cX8_init 145 = .ok (.aload_n 0, 1) := by decide +kernel
theorem dX8_init_146 : decode cX8_init 146 = .ok (.bipush 24, 2) := by decide +kernel
theorem dX8_init_148 : decode cX8_init 148 = .ok (.newarray .int, 2) := by decide +kernel
theorem dX8_init_150 : decode cX8_init 150 = .ok (.putfield 65, 3) := by decide +kernel
theorem dX8_init_153 : decode cX8_init 153 = .ok (.aload_n 0, 1) := by decide +kernel
theorem dX8_init_154 : decode cX8_init 154 = .ok (.bipush 60, 2) := by decide +kernel
theorem dX8_init_156 : decode cX8_init 156 = .ok (.newarray .int, 2) := by decide +kernel
theorem dX8_init_158 : decode cX8_init 158 = .ok (.putfield 68, 3) := by decide +kernel
theorem dX8_init_161 : decode cX8_init 161 = .ok (.aload_n 0, 1) := by decide +kernel
theorem dX8_init_162 : decode cX8_init 162 = .ok (.bipush 60, 2) := by decide +kernel
theorem dX8_init_164 : decode cX8_init 164 = .ok (.newarray .int, 2) := by decide +kernel
theorem dX8_init_166 : decode cX8_init 166 = .ok (.putfield 71, 3) := by decide +kernel
theorem dX8_init_169 : decode cX8_init 169 = .ok (.aload_n 0, 1) := by decide +kernel
theorem dX8_init_170 : decode cX8_init 170 = .ok (.getfield 7, 3) := by decide +kernel
theorem dX8_init_173 : decode cX8_init 173 = .ok (.iconst 5, 1) := by decide +kernel
theorem dX8_init_174 : decode cX8_init 174 = .ok (.iconst 1, 1) := by decide +kernel
theorem dX8_init_175 : decode cX8_init 175 = .ok (.iastore, 1) := by decide +kernel
theorem dX8_init_176 : decode cX8_init 176 = .ok (.iconst 0, 1) := by decide +kernel
theorem dX8_init_177 : decode cX8_init 177 = .ok (.istore_n 1, 1) := by decide +kernel
theorem dX8_init_178 : decode cX8_init 178 = .ok (.iload_n 1, 1) := by decide +kernel
theorem dX8_init_179 : decode cX8_init 179 = .ok (.iconst 4, 1) := by decide +kernel
theorem dX8_init_180 : decode cX8_init 180 = .ok (.if_icmp .ge 16, 3) := by decide +kernel
theorem dX8_init_183 : decode cX8_init 183 = .ok (.aload_n 0, 1) := by decide +kernel
theorem dX8_init_184 : decode cX8_init 184 = .ok (.getfield 19, 3) := by decide +kernel
theorem dX8_init_187 : decode cX8_init 187 = .ok (.iload_n 1, 1) := by decide +kernel
theorem dX8_init_188 : decode cX8_init 188 = .ok (.iconst (-1), 1) := by decide +kernel
theorem dX8_init_189 : decode cX8_init 189 = .ok (.iastore, 1) := by decide +kernel
theorem dX8_init_190 : decode cX8_init 190 = .ok (.iinc 1 1, 3) := by decide +kernel
theorem dX8_init_193 : decode cX8_init 193 = .ok (.goto (-15), 3) := by decide +kernel
theorem dX8_init_196 : decode cX8_init 196 = .ok (.return_, 1) := by decide +kernel
theorem dX8_isIn_0 : decode cX8_isIn 0 = .ok (.lload_n 0, 1) := by decide +kernel
theorem dX8_isIn_1 : decode cX8_isIn 1 = .ok (.lload_n 2, 1) := by decide +kernel
theorem dX8_isIn_2 : decode cX8_isIn 2 = .ok (.lcmp, 1) := by decide +kernel
theorem dX8_isIn_3 : decode cX8_isIn 3 = .ok (.ifCond .lt 14, 3) := by decide +kernel
theorem dX8_isIn_6 : decode cX8_isIn 6 = .ok (.lload_n 0, 1) := by decide +kernel
theorem dX8_isIn_7 : decode cX8_isIn 7 = .ok (.lload 4, 2) := by decide +kernel
theorem dX8_isIn_9 : decode cX8_isIn 9 = .ok (.lcmp, 1) := by decide +kernel
theorem dX8_isIn_10 : decode cX8_isIn 10 = .ok (.ifCond .gt 7, 3) := by decide +kernel
theorem dX8_isIn_13 : decode cX8_isIn 13 = .ok (.iconst 1, 1) := by decide +kernel
theorem dX8_isIn_14 : decode cX8_isIn 14 = .ok (.goto 4, 3) := by decide +kernel
theorem dX8_isIn_17 : decode cX8_isIn 17 = .ok (.iconst 0, 1) := by decide +kernel
theorem dX8_isIn_18 : decode cX8_isIn 18 = .ok (.ireturn, 1) := by decide +kernel
theorem dX8_orNone_0 : decode cX8_orNone 0 = .ok (.iload_n 0, 1) := by decide +kernel
theorem dX8_orNone_1 : decode cX8_orNone 1 = .ok (.ifCond .ge 8, 3) := by decide +kernel
theorem dX8_orNone_4 : decode cX8_orNone 4 = .ok (.ldc 74, 2) := by decide +kernel
theorem dX8_orNone_6 : decode cX8_orNone 6 = .ok (.goto 4, 3) := by decide +kernel
theorem dX8_orNone_9 : decode cX8_orNone 9 = .ok (.iload_n 0, 1) := by decide +kernel
theorem dX8_orNone_10 : decode cX8_orNone 10 = .ok (.ireturn, 1) := by decide +kernel
theorem dX8_within_0 : decode cX8_within 0 = .ok (.iload_n 0, 1) := by decide +kernel
theorem dX8_within_1 : decode cX8_within 1 = .ok (.ifCond .ge 7, 3) := by decide +kernel
theorem dX8_within_4 : decode cX8_within 4 = .ok (.iconst 0, 1) := by decide +kernel
theorem dX8_within_5 : decode cX8_within 5 = .ok (.goto 13, 3) := by decide +kernel
theorem dX8_within_8 : decode cX8_within 8 = .ok (.iload_n 0, 1) := by decide +kernel
theorem dX8_within_9 : decode cX8_within 9 = .ok (.iload_n 1, 1) := by decide +kernel
theorem dX8_within_10 : decode cX8_within 10 = .ok (.if_icmp .le 7, 3) := by decide +kernel
theorem dX8_within_13 : decode cX8_within 13 = .ok (.iload_n 1, 1) := by decide +kernel
theorem dX8_within_14 : decode cX8_within 14 = .ok (.goto 4, 3) := by decide +kernel
theorem dX8_within_17 : decode cX8_within 17 = .ok (.iload_n 0, 1) := by decide +kernel
theorem dX8_within_18 : decode cX8_within 18 = .ok (.ireturn, 1) := by decide +kernel
theorem dX8_off_0 : decode cX8_off 0 = .ok (.iload_n 0, 1) := by decide +kernel
theorem dX8_off_1 : decode cX8_off 1 = .ok (.iload_n 1, 1) := by decide +kernel
theorem dX8_off_2 : decode cX8_off 2 = .ok (.if_icmp .ge 9, 3) := by decide +kernel
theorem dX8_off_5 : decode cX8_off 5 = .ok (.iload_n 1, 1) := by decide +kernel
theorem dX8_off_6 : decode cX8_off 6 = .ok (.iload_n 0, 1) := by decide +kernel
theorem dX8_off_7 : decode cX8_off 7 = .ok (.isub, 1) := by decide +kernel
theorem dX8_off_8 : decode cX8_off 8 = .ok (.goto 6, 3) := by decide +kernel
theorem dX8_off_11 : decode cX8_off 11 = .ok (.iload_n 0, 1) := by decide +kernel
theorem dX8_off_12 : decode cX8_off 12 = .ok (.iload_n 1, 1) := by decide +kernel
theorem dX8_off_13 : decode cX8_off 13 = .ok (.isub, 1) := by decide +kernel
theorem dX8_off_14 : decode cX8_off 14 = .ok (.ireturn, 1) := by decide +kernel
theorem dX8_becomes_0 : decode cX8_becomes 0 = .ok (.aload_n 0, 1) := by decide +kernel
theorem dX8_becomes_1 : decode cX8_becomes 1 = .ok (.getfield 7, 3) := by decide +kernel
theorem dX8_becomes_4 : decode cX8_becomes 4 = .ok (.iload_n 1, 1) := by decide +kernel
theorem dX8_becomes_5 : decode cX8_becomes 5 = .ok (.iaload, 1) := by decide +kernel
theorem dX8_becomes_6 : decode cX8_becomes 6 = .ok (.istore_n 3, 1) := by decide +kernel
theorem dX8_becomes_7 : decode cX8_becomes 7 = .ok (.aload_n 0, 1) := by decide +kernel
theorem dX8_becomes_8 : decode cX8_becomes 8 = .ok (.getfield 7, 3) := by decide +kernel
theorem dX8_becomes_11 : decode cX8_becomes 11 = .ok (.iload_n 1, 1) := by decide +kernel
theorem dX8_becomes_12 : decode cX8_becomes 12 = .ok (.iload_n 2, 1) := by decide +kernel
theorem dX8_becomes_13 : decode cX8_becomes 13 = .ok (.iastore, 1) := by decide +kernel
theorem dX8_becomes_14 : decode cX8_becomes 14 = .ok (.iload_n 3, 1) := by decide +kernel
theorem dX8_becomes_15 : decode cX8_becomes 15 = .ok (.ireturn, 1) := by decide +kernel
theorem dX8_textAt_0 : decode cX8_textAt 0 = .ok (.bipush 76, 2) := by decide +kernel
theorem dX8_textAt_2 : decode cX8_textAt 2 = .ok (.sipush 200, 3) := by decide +kernel
theorem dX8_textAt_5 : decode cX8_textAt 5 = .ok (.iload_n 1, 1) := by decide +kernel
theorem dX8_textAt_6 : decode cX8_textAt 6 = .ok (.imul, 1) := by decide +kernel
theorem dX8_textAt_7 : decode cX8_textAt 7 = .ok (.iadd, 1) := by decide +kernel
theorem dX8_textAt_8 : decode cX8_textAt 8 = .ok (.ireturn, 1) := by decide +kernel
theorem dX8_of_0 : decode cX8_of 0 = .ok (.aload_n 0, 1) := by decide +kernel
theorem dX8_of_1 : decode cX8_of 1 = .ok (.getfield 7, 3) := by decide +kernel
theorem dX8_of_4 : decode cX8_of 4 = .ok (.bipush 20, 2) := by decide +kernel
theorem dX8_of_6 : decode cX8_of 6 = .ok (.iconst 4, 1) := by decide +kernel
theorem dX8_of_7 : decode cX8_of 7 = .ok (.iload_n 1, 1) := by decide +kernel
theorem dX8_of_8 : decode cX8_of 8 = .ok (.imul, 1) := by decide +kernel
theorem dX8_of_9 : decode cX8_of 9 = .ok (.iadd, 1) := by decide +kernel
theorem dX8_of_10 : decode cX8_of 10 = .ok (.iload_n 2, 1) := by decide +kernel
theorem dX8_of_11 : decode cX8_of 11 = .ok (.iadd, 1) := by decide +kernel
theorem dX8_of_12 : decode cX8_of 12 = .ok (.iaload, 1) := by decide +kernel
theorem dX8_of_13 : decode cX8_of 13 = .ok (.ireturn, 1) := by decide +kernel
theorem dX8_sets_0 : decode cX8_sets 0 = .ok (.aload_n 0, 1) := by decide +kernel
theorem dX8_sets_1 : decode cX8_sets 1 = .ok (.getfield 7, 3) := by decide +kernel
theorem dX8_sets_4 : decode cX8_sets 4 = .ok (.bipush 20, 2) := by decide +kernel
theorem dX8_sets_6 : decode cX8_sets 6 = .ok (.iconst 4, 1) := by decide +kernel
theorem dX8_sets_7 : decode cX8_sets 7 = .ok (.iload_n 1, 1) := by decide +kernel
theorem dX8_sets_8 : decode cX8_sets 8 = .ok (.imul, 1) := by decide +kernel
theorem dX8_sets_9 : decode cX8_sets 9 = .ok (.iadd, 1) := by decide +kernel
theorem dX8_sets_10 : decode cX8_sets 10 = .ok (.iload_n 2, 1) := by decide +kernel
theorem dX8_sets_11 : decode cX8_sets 11 = .ok (.iadd, 1) := by decide +kernel
theorem dX8_sets_12 : decode cX8_sets 12 = .ok (.iload_n 3, 1) := by decide +kernel
theorem dX8_sets_13 : decode cX8_sets 13 = .ok (.iastore, 1) := by decide +kernel
theorem dX8_sets_14 : decode cX8_sets 14 = .ok (.return_, 1) := by decide +kernel
theorem dX8_isOne_0 : decode cX8_isOne 0 = .ok (.iload_n 1, 1) := by decide +kernel
theorem dX8_isOne_1 : decode cX8_isOne 1 = .ok (.i2l, 1) := by decide +kernel
theorem dX8_isOne_2 : decode cX8_isOne 2 = .ok (.lconst 0, 1) := by decide +kernel
theorem dX8_isOne_3 : decode cX8_isOne 3 = .ok (.aload_n 0, 1) := by decide +kernel
theorem dX8_isOne_4 : decode cX8_isOne 4 = .ok (.getfield 7, 3) := by decide +kernel
theorem dX8_isOne_7 : decode cX8_isOne 7 = .ok (.iconst 0, 1) := by decide +kernel
theorem dX8_isOne_8 : decode cX8_isOne 8 = .ok (.iaload, 1) := by decide +kernel
theorem dX8_isOne_9 : decode cX8_isOne 9 = .ok (.iconst 1, 1) := by decide +kernel
theorem dX8_isOne_10 : decode cX8_isOne 10 = .ok (.isub, 1) := by decide +kernel
theorem dX8_isOne_11 : decode cX8_isOne 11 = .ok (.i2l, 1) := by decide +kernel
theorem dX8_isOne_12 : decode cX8_isOne 12 = .ok (.invokestatic 75, 3) := by decide +kernel
theorem dX8_isOne_15 : decode cX8_isOne 15 = .ok (.ireturn, 1) := by decide +kernel
theorem dX8_isText_0 : decode cX8_isText 0 = .ok (.iload_n 1, 1) := by decide +kernel
theorem dX8_isText_1 : decode cX8_isText 1 = .ok (.i2l, 1) := by decide +kernel
theorem dX8_isText_2 : decode cX8_isText 2 = .ok (.lconst 0, 1) := by decide +kernel
theorem dX8_isText_3 : decode cX8_isText 3 = .ok (.aload_n 0, 1) := by decide +kernel
theorem dX8_isText_4 : decode cX8_isText 4 = .ok (.getfield 7, 3) := by decide +kernel
theorem dX8_isText_7 : decode cX8_isText 7 = .ok (.iconst 1, 1) := by decide +kernel
theorem dX8_isText_8 : decode cX8_isText 8 = .ok (.iaload, 1) := by decide +kernel
theorem dX8_isText_9 : decode cX8_isText 9 = .ok (.iconst 1, 1) := by decide +kernel
theorem dX8_isText_10 : decode cX8_isText 10 = .ok (.isub, 1) := by decide +kernel
theorem dX8_isText_11 : decode cX8_isText 11 = .ok (.i2l, 1) := by decide +kernel
theorem dX8_isText_12 : decode cX8_isText 12 = .ok (.invokestatic 75, 3) := by decide +kernel
theorem dX8_isText_15 : decode cX8_isText 15 = .ok (.ireturn, 1) := by decide +kernel
theorem dX8_drawn_0 : decode cX8_drawn 0 = .ok (.aload_n 0, 1) := by decide +kernel
theorem dX8_drawn_1 : decode cX8_drawn 1 = .ok (.getfield 7, 3) := by decide +kernel
theorem dX8_drawn_4 : decode cX8_drawn 4 = .ok (.iconst 5, 1) := by decide +kernel
theorem dX8_drawn_5 : decode cX8_drawn 5 = .ok (.aload_n 0, 1) := by decide +kernel
theorem dX8_drawn_6 : decode cX8_drawn 6 = .ok (.getfield 7, 3) := by decide +kernel
theorem dX8_drawn_9 : decode cX8_drawn 9 = .ok (.iconst 5, 1) := by decide +kernel
theorem dX8_drawn_10 : decode cX8_drawn 10 = .ok (.iaload, 1) := by decide +kernel
theorem dX8_drawn_11 : decode cX8_drawn 11 = .ok (.ldc 79, 2) := by decide +kernel
theorem dX8_drawn_13 : decode cX8_drawn 13 = .ok (.imul, 1) := by decide +kernel
theorem dX8_drawn_14 : decode cX8_drawn 14 = .ok (.sipush 12345, 3) := by decide +kernel
theorem dX8_drawn_17 : decode cX8_drawn 17 = .ok (.iadd, 1) := by decide +kernel
theorem dX8_drawn_18 : decode cX8_drawn 18 = .ok (.iastore, 1) := by decide +kernel
theorem dX8_drawn_19 : decode cX8_drawn 19 = .ok (.aload_n 0, 1) := by decide +kernel
theorem dX8_drawn_20 : decode cX8_drawn 20 = .ok (.getfield 7, 3) := by decide +kernel
theorem dX8_drawn_23 : decode cX8_drawn 23 = .ok (.iconst 5, 1) := by decide +kernel
theorem dX8_drawn_24 : decode cX8_drawn 24 = .ok (.iaload, 1) := by decide +kernel
theorem dX8_drawn_25 : decode cX8_drawn 25 = .ok (.bipush 8, 2) := by decide +kernel
theorem dX8_drawn_27 : decode cX8_drawn 27 = .ok (.iushr, 1) := by decide +kernel
theorem dX8_drawn_28 : decode cX8_drawn 28 = .ok (.ireturn, 1) := by decide +kernel
theorem dX8_comes_0 : decode cX8_comes 0 = .ok (.aload_n 0, 1) := by decide +kernel
theorem dX8_comes_1 : decode cX8_comes 1 = .ok (.getfield 7, 3) := by decide +kernel
theorem dX8_comes_4 : decode cX8_comes 4 = .ok (.iconst 0, 1) := by decide +kernel
theorem dX8_comes_5 : decode cX8_comes 5 = .ok (.iaload, 1) := by decide +kernel
theorem dX8_comes_6 : decode cX8_comes 6 = .ok (.istore 4, 2) := by decide +kernel
theorem dX8_comes_8 : decode cX8_comes 8 = .ok (.aload_n 0, 1) := by decide +kernel
theorem dX8_comes_9 : decode cX8_comes 9 = .ok (.getfield 7, 3) := by decide +kernel
theorem dX8_comes_12 : decode cX8_comes 12 = .ok (.bipush 6, 2) := by decide +kernel
theorem dX8_comes_14 : decode cX8_comes 14 = .ok (.iload 4, 2) := by decide +kernel
theorem dX8_comes_16 : decode cX8_comes 16 = .ok (.iadd, 1) := by decide +kernel
theorem dX8_comes_17 : decode cX8_comes 17 = .ok (.iload 4, 2) := by decide +kernel
theorem dX8_comes_19 : decode cX8_comes 19 = .ok (.iastore, 1) := by decide +kernel
theorem dX8_comes_20 : decode cX8_comes 20 = .ok (.aload_n 0, 1) := by decide +kernel
theorem dX8_comes_21 : decode cX8_comes 21 = .ok (.getfield 7, 3) := by decide +kernel
theorem dX8_comes_24 : decode cX8_comes 24 = .ok (.iconst 0, 1) := by decide +kernel
theorem dX8_comes_25 : decode cX8_comes 25 = .ok (.dup2, 1) := by decide +kernel
theorem dX8_comes_26 : decode cX8_comes 26 = .ok (.iaload, 1) := by decide +kernel
theorem dX8_comes_27 : decode cX8_comes 27 = .ok (.iconst 1, 1) := by decide +kernel
theorem dX8_comes_28 : decode cX8_comes 28 = .ok (.iadd, 1) := by decide +kernel
theorem dX8_comes_29 : decode cX8_comes 29 = .ok (.iastore, 1) := by decide +kernel
theorem dX8_comes_30 : decode cX8_comes 30 = .ok (.aload_n 0, 1) := by decide +kernel
theorem dX8_comes_31 : decode cX8_comes 31 = .ok (.iload 4, 2) := by decide +kernel
theorem dX8_comes_33 : decode cX8_comes 33 = .ok (.iconst 0, 1) := by decide +kernel
theorem dX8_comes_34 : decode cX8_comes 34 = .ok (.iload_n 1, 1) := by decide +kernel
theorem dX8_comes_35 : decode cX8_comes 35 = .ok (.invokevirtual 80, 3) := by decide +kernel
theorem dX8_comes_38 : decode cX8_comes 38 = .ok (.aload_n 0, 1) := by decide +kernel
theorem dX8_comes_39 : decode cX8_comes 39 = .ok (.iload 4, 2) := by decide +kernel
theorem dX8_comes_41 : decode cX8_comes 41 = .ok (.iconst 1, 1) := by decide +kernel
theorem dX8_comes_42 : decode cX8_comes 42 = .ok (.iload_n 2, 1) := by decide +kernel
theorem dX8_comes_43 : decode cX8_comes 43 = .ok (.invokevirtual 80, 3) := by decide +kernel
theorem dX8_comes_46 : decode cX8_comes 46 = .ok (.aload_n 0, 1) := by decide +kernel
theorem dX8_comes_47 : decode cX8_comes 47 = .ok (.iload 4, 2) := by decide +kernel
theorem dX8_comes_49 : decode cX8_comes 49 = .ok (.iconst 2, 1) := by decide +kernel
theorem dX8_comes_50 : decode cX8_comes 50 = .ok (.iload_n 3, 1) := by decide +kernel
theorem dX8_comes_51 : decode cX8_comes 51 = .ok (.invokevirtual 80, 3) := by decide +kernel
theorem dX8_comes_54 : decode cX8_comes 54 = .ok (.aload_n 0, 1) := by decide +kernel
theorem dX8_comes_55 : decode cX8_comes 55 = .ok (.iload 4, 2) := by decide +kernel
theorem dX8_comes_57 : decode cX8_comes 57 = .ok (.iconst 3, 1) := by decide +kernel
theorem dX8_comes_58 : decode cX8_comes 58 = .ok (.iconst 0, 1) := by decide +kernel
theorem dX8_comes_59 : decode cX8_comes 59 = .ok (.invokevirtual 80, 3) := by decide +kernel
theorem dX8_comes_62 : decode cX8_comes 62 = .ok (.return_, 1) := by decide +kernel
theorem dX8_letter_0 : decode cX8_letter 0 = .ok (.iload_n 1, 1) := by decide +kernel
theorem dX8_letter_1 : decode cX8_letter 1 = .ok (.i2l, 1) := by decide +kernel
theorem dX8_letter_2 : decode cX8_letter 2 = .ok (.lconst 0, 1) := by decide +kernel
theorem dX8_letter_3 : decode cX8_letter 3 = .ok (.ldc2_w 84, 3) := by decide +kernel
theorem dX8_letter_6 : decode cX8_letter 6 = .ok (.invokestatic 75, 3) := by decide +kernel
theorem dX8_letter_9 : decode cX8_letter 9 = .ok (.ifCond .eq 27, 3) := by decide +kernel
theorem dX8_letter_12 : decode cX8_letter 12 = .ok (.iload_n 2, 1) := by decide +kernel
theorem dX8_letter_13 : decode cX8_letter 13 = .ok (.i2l, 1) := by decide +kernel
theorem dX8_letter_14 : decode cX8_letter 14 = .ok (.lconst 1, 1) := by decide +kernel
theorem dX8_letter_15 : decode cX8_letter 15 = .ok (.ldc2_w 86, 3) := by decide +kernel
theorem dX8_letter_18 : decode cX8_letter 18 = .ok (.invokestatic 75, 3) := by decide +kernel
theorem dX8_letter_21 : decode cX8_letter 21 = .ok (.ifCond .eq 15, 3) := by decide +kernel
theorem dX8_letter_24 : decode cX8_letter 24 = .ok (.iload_n 3, 1) := by decide +kernel
theorem dX8_letter_25 : decode cX8_letter 25 = .ok (.i2l, 1) := by decide +kernel
theorem dX8_letter_26 : decode cX8_letter 26 = .ok (.lconst 0, 1) := by decide +kernel
theorem dX8_letter_27 : decode cX8_letter 27 = .ok (.ldc2_w 88, 3) := by decide +kernel
theorem dX8_letter_30 : decode cX8_letter 30 = .ok (.invokestatic 75, 3) := by decide +kernel
theorem dX8_letter_33 : decode cX8_letter 33 = .ok (.ifCond .ne 6, 3) := by decide +kernel
theorem dX8_letter_36 : decode cX8_letter 36 = .ok (.ldc 90, 2) := by decide +kernel
theorem dX8_letter_38 : decode cX8_letter 38 = .ok (.ireturn, 1) := by decide +kernel
theorem dX8_letter_39 : decode cX8_letter 39 = .ok (.aload_n 0, 1) := by decide +kernel
theorem dX8_letter_40 : decode cX8_letter 40 = .ok (.getfield 7, 3) := by decide +kernel
theorem dX8_letter_43 : decode cX8_letter 43 = .ok (.iconst 0, 1) := by decide +kernel
theorem dX8_letter_44 : decode cX8_letter 44 = .ok (.iaload, 1) := by decide +kernel
theorem dX8_letter_45 : decode cX8_letter 45 = .ok (.bipush 14, 2) := by decide +kernel
theorem dX8_letter_47 : decode cX8_letter 47 = .ok (.if_icmp .ne 6, 3) := by decide +kernel
theorem dX8_letter_50 : decode cX8_letter 50 = .ok (.ldc 91, 2) := by decide +kernel
theorem dX8_letter_52 : decode cX8_letter 52 = .ok (.ireturn, 1) := by decide +kernel
theorem dX8_letter_53 : decode cX8_letter 53 = .ok (.aload_n 0, 1) := by decide +kernel
theorem dX8_letter_54 : decode cX8_letter 54 = .ok (.iload_n 1, 1) := by decide +kernel
theorem dX8_letter_55 : decode cX8_letter 55 = .ok (.iload_n 2, 1) := by decide +kernel
theorem dX8_letter_56 : decode cX8_letter 56 = .ok (.iload_n 3, 1) := by decide +kernel
theorem dX8_letter_57 : decode cX8_letter 57 = .ok (.invokevirtual 92, 3) := by decide +kernel
theorem dX8_letter_60 : decode cX8_letter 60 = .ok (.aload_n 0, 1) := by decide +kernel
theorem dX8_letter_61 : decode cX8_letter 61 = .ok (.getfield 7, 3) := by decide +kernel
theorem dX8_letter_64 : decode cX8_letter 64 = .ok (.iconst 0, 1) := by decide +kernel
theorem dX8_letter_65 : decode cX8_letter 65 = .ok (.iaload, 1) := by decide +kernel
theorem dX8_letter_66 : decode cX8_letter 66 = .ok (.iconst 1, 1) := by decide +kernel
theorem dX8_letter_67 : decode cX8_letter 67 = .ok (.isub, 1) := by decide +kernel
theorem dX8_letter_68 : decode cX8_letter 68 = .ok (.ireturn, 1) := by decide +kernel
theorem dX8_forgets_0 : decode cX8_forgets 0 = .ok (.aload_n 0, 1) := by decide +kernel
theorem dX8_forgets_1 : decode cX8_forgets 1 = .ok (.aload_n 0, 1) := by decide +kernel
theorem dX8_forgets_2 : decode cX8_forgets 2 = .ok (.iconst 0, 1) := by decide +kernel
theorem dX8_forgets_3 : decode cX8_forgets 3 = .ok (.invokevirtual 95, 3) := by decide +kernel
theorem dX8_forgets_6 : decode cX8_forgets 6 = .ok (.putfield 43, 3) := by decide +kernel
theorem dX8_forgets_9 : decode cX8_forgets 9 = .ok (.iconst 0, 1) := by decide +kernel
theorem dX8_forgets_10 : decode cX8_forgets 10 = .ok (.istore_n 1, 1) := by decide +kernel
theorem dX8_forgets_11 : decode cX8_forgets 11 = .ok (.iload_n 1, 1) := by decide +kernel
theorem dX8_forgets_12 : decode cX8_forgets 12 = .ok (.sipush 4096, 3) := by decide +kernel
theorem dX8_forgets_15 : decode cX8_forgets 15 = .ok (.if_icmp .ge 16, 3) := by decide +kernel
theorem dX8_forgets_18 : decode cX8_forgets 18 = .ok (.aload_n 0, 1) := by decide +kernel
theorem dX8_forgets_19 : decode cX8_forgets 19 = .ok (.getfield 47, 3) := by decide +kernel
theorem dX8_forgets_22 : decode cX8_forgets 22 = .ok (.iload_n 1, 1) := by decide +kernel
theorem dX8_forgets_23 : decode cX8_forgets 23 = .ok (.iconst 0, 1) := by decide +kernel
theorem dX8_forgets_24 : decode cX8_forgets 24 = .ok (.iastore, 1) := by decide +kernel
theorem dX8_forgets_25 : decode cX8_forgets 25 = .ok (.iinc 1 1, 3) := by decide +kernel
theorem dX8_forgets_28 : decode cX8_forgets 28 = .ok (.goto (-17), 3) := by decide +kernel
theorem dX8_forgets_31 : decode cX8_forgets 31 = .ok (.return_, 1) := by decide +kernel
theorem dX8_givenRise_0 : decode cX8_givenRise 0 = .ok (.aload_n 0, 1) := by decide +kernel
theorem dX8_givenRise_1 : decode cX8_givenRise 1 = .ok (.iload_n 1, 1) := by decide +kernel
theorem dX8_givenRise_2 : decode cX8_givenRise 2 = .ok (.iconst 1, 1) := by decide +kernel
theorem dX8_givenRise_3 : decode cX8_givenRise 3 = .ok (.invokevirtual 99, 3) := by decide +kernel
theorem dX8_givenRise_6 : decode cX8_givenRise 6 = .ok (.istore_n 2, 1) := by decide +kernel
theorem dX8_givenRise_7 : decode cX8_givenRise 7 = .ok (.aload_n 0, 1) := by decide +kernel
theorem dX8_givenRise_8 : decode cX8_givenRise 8 = .ok (.iload_n 1, 1) := by decide +kernel
theorem dX8_givenRise_9 : decode cX8_givenRise 9 = .ok (.iconst 2, 1) := by decide +kernel
theorem dX8_givenRise_10 : decode cX8_givenRise 10 = .ok (.invokevirtual 99, 3) := by decide +kernel
theorem dX8_givenRise_13 : decode cX8_givenRise 13 = .ok (.istore_n 3, 1) := by decide +kernel
theorem dX8_givenRise_14 : decode cX8_givenRise 14 = .ok (.aload_n 0, 1) := by decide +kernel
theorem dX8_givenRise_15 : decode cX8_givenRise 15 = .ok (.iload_n 1, 1) := by decide +kernel
theorem dX8_givenRise_16 : decode cX8_givenRise 16 = .ok (.iconst 3, 1) := by decide +kernel
theorem dX8_givenRise_17 : decode cX8_givenRise 17 = .ok (.invokevirtual 99, 3) := by decide +kernel
theorem dX8_givenRise_20 : decode cX8_givenRise 20 = .ok (.istore 4, 2) := by decide +kernel
theorem dX8_givenRise_22 : decode cX8_givenRise 22 = .ok (.iconst 1, 1) := by decide +kernel
theorem dX8_givenRise_23 : decode cX8_givenRise 23 = .ok (.iload 4, 2) := by decide +kernel
theorem dX8_givenRise_25 : decode cX8_givenRise 25 = .ok (.bipush 11, 2) := by decide +kernel
theorem dX8_givenRise_27 : decode cX8_givenRise 27 = .ok (.ishl, 1) := by decide +kernel
theorem dX8_givenRise_28 : decode cX8_givenRise 28 = .ok (.iload_n 3, 1) := by decide +kernel
theorem dX8_givenRise_29 : decode cX8_givenRise 29 = .ok (.bipush 7, 2) := by decide +kernel
theorem dX8_givenRise_31 : decode cX8_givenRise 31 = .ok (.ishl, 1) := by decide +kernel
theorem dX8_givenRise_32 : decode cX8_givenRise 32 = .ok (.ior, 1) := by decide +kernel
theorem dX8_givenRise_33 : decode cX8_givenRise 33 = .ok (.iload_n 2, 1) := by decide +kernel
theorem dX8_givenRise_34 : decode cX8_givenRise 34 = .ok (.ior, 1) := by decide +kernel
theorem dX8_givenRise_35 : decode cX8_givenRise 35 = .ok (.iadd, 1) := by decide +kernel
theorem dX8_givenRise_36 : decode cX8_givenRise 36 = .ok (.istore 5, 2) := by decide +kernel
theorem dX8_givenRise_38 : decode cX8_givenRise 38 = .ok (.iload 4, 2) := by decide +kernel
theorem dX8_givenRise_40 : decode cX8_givenRise 40 = .ok (.bipush 7, 2) := by decide +kernel
theorem dX8_givenRise_42 : decode cX8_givenRise 42 = .ok (.ishl, 1) := by decide +kernel
theorem dX8_givenRise_43 : decode cX8_givenRise 43 = .ok (.bipush 37, 2) := by decide +kernel
theorem dX8_givenRise_45 : decode cX8_givenRise 45 = .ok (.iload_n 3, 1) := by decide +kernel
theorem dX8_givenRise_46 : decode cX8_givenRise 46 = .ok (.imul, 1) := by decide +kernel
theorem dX8_givenRise_47 : decode cX8_givenRise 47 = .ok (.ixor, 1) := by decide +kernel
theorem dX8_givenRise_48 : decode cX8_givenRise 48 = .ok (.iload_n 2, 1) := by decide +kernel
theorem dX8_givenRise_49 : decode cX8_givenRise 49 = .ok (.ixor, 1) := by decide +kernel
theorem dX8_givenRise_50 : decode cX8_givenRise 50 = .ok (.sipush 4095, 3) := by decide +kernel
theorem dX8_givenRise_53 : decode cX8_givenRise 53 = .ok (.iand, 1) := by decide +kernel
theorem dX8_givenRise_54 : decode cX8_givenRise 54 = .ok (.istore 6, 2) := by decide +kernel
theorem dX8_givenRise_56 : decode cX8_givenRise 56 = .ok (.aload_n 0, 1) := by decide +kernel
theorem dX8_givenRise_57 : decode cX8_givenRise 57 = .ok (.getfield 47, 3) := by decide +kernel
theorem dX8_givenRise_60 : decode cX8_givenRise 60 = .ok (.iload 6, 2) := by decide +kernel
theorem dX8_givenRise_62 : decode cX8_givenRise 62 = .ok (.iaload, 1) := by decide +kernel
theorem dX8_givenRise_63 : decode cX8_givenRise 63 = .ok (.iload 5, 2) := by decide +kernel
theorem dX8_givenRise_65 : decode cX8_givenRise 65 = .ok (.if_icmp .eq 58, 3) := by decide +kernel
theorem dX8_givenRise_68 : decode cX8_givenRise 68 = .ok (.aload_n 0, 1) := by decide +kernel
theorem dX8_givenRise_69 : decode cX8_givenRise 69 = .ok (.getfield 59, 3) := by decide +kernel
theorem dX8_givenRise_72 : decode cX8_givenRise 72 = .ok (.bipush 116, 2) := by decide +kernel
theorem dX8_givenRise_74 : decode cX8_givenRise 74 = .ok (.iload_n 2, 1) := by decide +kernel
theorem dX8_givenRise_75 : decode cX8_givenRise 75 = .ok (.iastore, 1) := by decide +kernel
theorem dX8_givenRise_76 : decode cX8_givenRise 76 = .ok (.aload_n 0, 1) := by decide +kernel
theorem dX8_givenRise_77 : decode cX8_givenRise 77 = .ok (.getfield 59, 3) := by decide +kernel
theorem dX8_givenRise_80 : decode cX8_givenRise 80 = .ok (.bipush 100, 2) := by decide +kernel
theorem dX8_givenRise_82 : decode cX8_givenRise 82 = .ok (.iload_n 3, 1) := by decide +kernel
theorem dX8_givenRise_83 : decode cX8_givenRise 83 = .ok (.iastore, 1) := by decide +kernel
theorem dX8_givenRise_84 : decode cX8_givenRise 84 = .ok (.aload_n 0, 1) := by decide +kernel
theorem dX8_givenRise_85 : decode cX8_givenRise 85 = .ok (.getfield 59, 3) := by decide +kernel
theorem dX8_givenRise_88 : decode cX8_givenRise 88 = .ok (.bipush 109, 2) := by decide +kernel
theorem dX8_givenRise_90 : decode cX8_givenRise 90 = .ok (.iload 4, 2) := by decide +kernel
theorem dX8_givenRise_92 : decode cX8_givenRise 92 = .ok (.iastore, 1) := by decide +kernel
theorem dX8_givenRise_93 : decode cX8_givenRise 93 = .ok (.aload_n 0, 1) := by decide +kernel
theorem dX8_givenRise_94 : decode cX8_givenRise 94 = .ok (.getfield 50, 3) := by decide +kernel
theorem dX8_givenRise_97 : decode cX8_givenRise 97 = .ok (.iload 6, 2) := by decide +kernel
theorem dX8_givenRise_99 : decode cX8_givenRise 99 = .ok (.aload_n 0, 1) := by decide +kernel
theorem dX8_givenRise_100 : decode cX8_givenRise 100 = .ok (.aload_n 0, 1) := by decide +kernel
theorem dX8_givenRise_101 : decode cX8_givenRise 101 = .ok (.getfield 43, 3) := by decide +kernel
theorem dX8_givenRise_104 : decode cX8_givenRise 104 = .ok (.invokevirtual 103, 3) := by decide +kernel
theorem dX8_givenRise_107 : decode cX8_givenRise 107 = .ok (.sipush 999, 3) := by decide +kernel
theorem dX8_givenRise_110 : decode cX8_givenRise 110 = .ok (.invokestatic 106, 3) := by decide +kernel
theorem dX8_givenRise_113 : decode cX8_givenRise 113 = .ok (.iastore, 1) := by decide +kernel
theorem dX8_givenRise_114 : decode cX8_givenRise 114 = .ok (.aload_n 0, 1) := by decide +kernel
theorem dX8_givenRise_115 : decode cX8_givenRise 115 = .ok (.getfield 47, 3) := by decide +kernel
theorem dX8_givenRise_118 : decode cX8_givenRise 118 = .ok (.iload 6, 2) := by decide +kernel
theorem dX8_givenRise_120 : decode cX8_givenRise 120 = .ok (.iload 5, 2) := by decide +kernel
theorem dX8_givenRise_122 : decode cX8_givenRise 122 = .ok (.iastore, 1) := by decide +kernel
theorem dX8_givenRise_123 : decode cX8_givenRise 123 = .ok (.aload_n 0, 1) := by decide +kernel
theorem dX8_givenRise_124 : decode cX8_givenRise 124 = .ok (.getfield 50, 3) := by decide +kernel
theorem dX8_givenRise_127 : decode cX8_givenRise 127 = .ok (.iload 6, 2) := by decide +kernel
theorem dX8_givenRise_129 : decode cX8_givenRise 129 = .ok (.iaload, 1) := by decide +kernel
theorem dX8_givenRise_130 : decode cX8_givenRise 130 = .ok (.ireturn, 1) := by decide +kernel
theorem dX8_rises_0 : decode cX8_rises 0 = .ok (.aload_n 0, 1) := by decide +kernel
theorem dX8_rises_1 : decode cX8_rises 1 = .ok (.getfield 43, 3) := by decide +kernel
theorem dX8_rises_4 : decode cX8_rises 4 = .ok (.ifCond .ge 12, 3) := by decide +kernel
theorem dX8_rises_7 : decode cX8_rises 7 = .ok (.aload_n 0, 1) := by decide +kernel
theorem dX8_rises_8 : decode cX8_rises 8 = .ok (.iload_n 1, 1) := by decide +kernel
theorem dX8_rises_9 : decode cX8_rises 9 = .ok (.iconst 1, 1) := by decide +kernel
theorem dX8_rises_10 : decode cX8_rises 10 = .ok (.invokevirtual 99, 3) := by decide +kernel
theorem dX8_rises_13 : decode cX8_rises 13 = .ok (.goto 8, 3) := by decide +kernel
theorem dX8_rises_16 : decode cX8_rises 16 = .ok (.aload_n 0, 1) := by decide +kernel
theorem dX8_rises_17 : decode cX8_rises 17 = .ok (.iload_n 1, 1) := by decide +kernel
theorem dX8_rises_18 : decode cX8_rises 18 = .ok (.invokevirtual 109, 3) := by decide +kernel
theorem dX8_rises_21 : decode cX8_rises 21 = .ok (.istore_n 2, 1) := by decide +kernel
theorem dX8_rises_22 : decode cX8_rises 22 = .ok (.aload_n 0, 1) := by decide +kernel
theorem dX8_rises_23 : decode cX8_rises 23 = .ok (.iload_n 1, 1) := by decide +kernel
theorem dX8_rises_24 : decode cX8_rises 24 = .ok (.iconst 0, 1) := by decide +kernel
theorem dX8_rises_25 : decode cX8_rises 25 = .ok (.invokevirtual 99, 3) := by decide +kernel
theorem dX8_rises_28 : decode cX8_rises 28 = .ok (.tableswitch 76 1 5 #[36, 47, 57, 70, 72], 36) := by decide +kernel
theorem dX8_rises_64 : decode cX8_rises 64 = .ok (.iload_n 2, 1) := by decide +kernel
theorem dX8_rises_65 : decode cX8_rises 65 = .ok (.bipush 20, 2) := by decide +kernel
theorem dX8_rises_67 : decode cX8_rises 67 = .ok (.isub, 1) := by decide +kernel
theorem dX8_rises_68 : decode cX8_rises 68 = .ok (.sipush 999, 3) := by decide +kernel
theorem dX8_rises_71 : decode cX8_rises 71 = .ok (.invokestatic 106, 3) := by decide +kernel
theorem dX8_rises_74 : decode cX8_rises 74 = .ok (.ireturn, 1) := by decide +kernel
theorem dX8_rises_75 : decode cX8_rises 75 = .ok (.iload_n 2, 1) := by decide +kernel
theorem dX8_rises_76 : decode cX8_rises 76 = .ok (.iconst 5, 1) := by decide +kernel
theorem dX8_rises_77 : decode cX8_rises 77 = .ok (.isub, 1) := by decide +kernel
theorem dX8_rises_78 : decode cX8_rises 78 = .ok (.sipush 999, 3) := by decide +kernel
theorem dX8_rises_81 : decode cX8_rises 81 = .ok (.invokestatic 106, 3) := by decide +kernel
theorem dX8_rises_84 : decode cX8_rises 84 = .ok (.ireturn, 1) := by decide +kernel
theorem dX8_rises_85 : decode cX8_rises 85 = .ok (.iload_n 2, 1) := by decide +kernel
theorem dX8_rises_86 : decode cX8_rises 86 = .ok (.bipush 20, 2) := by decide +kernel
theorem dX8_rises_88 : decode cX8_rises 88 = .ok (.isub, 1) := by decide +kernel
theorem dX8_rises_89 : decode cX8_rises 89 = .ok (.sipush 999, 3) := by decide +kernel
theorem dX8_rises_92 : decode cX8_rises 92 = .ok (.invokestatic 106, 3) := by decide +kernel
theorem dX8_rises_95 : decode cX8_rises 95 = .ok (.iconst 2, 1) := by decide +kernel
theorem dX8_rises_96 : decode cX8_rises 96 = .ok (.idiv, 1) := by decide +kernel
theorem dX8_rises_97 : decode cX8_rises 97 = .ok (.ireturn, 1) := by decide +kernel
theorem dX8_rises_98 : decode cX8_rises 98 = .ok (.iconst 0, 1) := by decide +kernel
theorem dX8_rises_99 : decode cX8_rises 99 = .ok (.ireturn, 1) := by decide +kernel
theorem dX8_rises_100 : decode cX8_rises 100 = .ok (.iconst 2, 1) := by decide +kernel
theorem dX8_rises_101 : decode cX8_rises 101 = .ok (.iload_n 2, 1) := by decide +kernel
theorem dX8_rises_102 : decode cX8_rises 102 = .ok (.imul, 1) := by decide +kernel
theorem dX8_rises_103 : decode cX8_rises 103 = .ok (.ireturn, 1) := by decide +kernel
theorem dX8_rises_104 : decode cX8_rises 104 = .ok (.iload_n 2, 1) := by decide +kernel
theorem dX8_rises_105 : decode cX8_rises 105 = .ok (.ireturn, 1) := by decide +kernel
theorem dX8_grips_0 : decode cX8_grips 0 = .ok (.aload_n 0, 1) := by decide +kernel
theorem dX8_grips_1 : decode cX8_grips 1 = .ok (.iload_n 1, 1) := by decide +kernel
theorem dX8_grips_2 : decode cX8_grips 2 = .ok (.iconst 0, 1) := by decide +kernel
theorem dX8_grips_3 : decode cX8_grips 3 = .ok (.invokevirtual 99, 3) := by decide +kernel
theorem dX8_grips_6 : decode cX8_grips 6 = .ok (.tableswitch 46 1 5 #[34, 36, 39, 41, 44], 34) := by decide +kernel
theorem dX8_grips_40 : decode cX8_grips 40 = .ok (.iconst 0, 1) := by decide +kernel
theorem dX8_grips_41 : decode cX8_grips 41 = .ok (.ireturn, 1) := by decide +kernel
theorem dX8_grips_42 : decode cX8_grips 42 = .ok (.bipush 10, 2) := by decide +kernel
theorem dX8_grips_44 : decode cX8_grips 44 = .ok (.ireturn, 1) := by decide +kernel
theorem dX8_grips_45 : decode cX8_grips 45 = .ok (.iconst 4, 1) := by decide +kernel
theorem dX8_grips_46 : decode cX8_grips 46 = .ok (.ireturn, 1) := by decide +kernel
theorem dX8_grips_47 : decode cX8_grips 47 = .ok (.bipush 20, 2) := by decide +kernel
theorem dX8_grips_49 : decode cX8_grips 49 = .ok (.ireturn, 1) := by decide +kernel
theorem dX8_grips_50 : decode cX8_grips 50 = .ok (.iconst 1, 1) := by decide +kernel
theorem dX8_grips_51 : decode cX8_grips 51 = .ok (.ireturn, 1) := by decide +kernel
theorem dX8_grips_52 : decode cX8_grips 52 = .ok (.iconst 2, 1) := by decide +kernel
theorem dX8_grips_53 : decode cX8_grips 53 = .ok (.ireturn, 1) := by decide +kernel
theorem dX8_worth_0 : decode cX8_worth 0 = .ok (.aload_n 0, 1) := by decide +kernel
theorem dX8_worth_1 : decode cX8_worth 1 = .ok (.iload_n 1, 1) := by decide +kernel
theorem dX8_worth_2 : decode cX8_worth 2 = .ok (.iconst 1, 1) := by decide +kernel
theorem dX8_worth_3 : decode cX8_worth 3 = .ok (.invokevirtual 99, 3) := by decide +kernel
theorem dX8_worth_6 : decode cX8_worth 6 = .ok (.istore_n 2, 1) := by decide +kernel
theorem dX8_worth_7 : decode cX8_worth 7 = .ok (.aload_n 0, 1) := by decide +kernel
theorem dX8_worth_8 : decode cX8_worth 8 = .ok (.iload_n 1, 1) := by decide +kernel
theorem dX8_worth_9 : decode cX8_worth 9 = .ok (.iconst 0, 1) := by decide +kernel
theorem dX8_worth_10 : decode cX8_worth 10 = .ok (.invokevirtual 99, 3) := by decide +kernel
theorem dX8_worth_13 : decode cX8_worth 13 = .ok (.tableswitch 59 1 5 #[35, 40, 45, 52, 57], 35) := by decide +kernel
theorem dX8_worth_48 : decode cX8_worth 48 = .ok (.iload_n 2, 1) := by decide +kernel
theorem dX8_worth_49 : decode cX8_worth 49 = .ok (.bipush 7, 2) := by decide +kernel
theorem dX8_worth_51 : decode cX8_worth 51 = .ok (.iadd, 1) := by decide +kernel
theorem dX8_worth_52 : decode cX8_worth 52 = .ok (.ireturn, 1) := by decide +kernel
theorem dX8_worth_53 : decode cX8_worth 53 = .ok (.bipush 99, 2) := by decide +kernel
theorem dX8_worth_55 : decode cX8_worth 55 = .ok (.iload_n 2, 1) := by decide +kernel
theorem dX8_worth_56 : decode cX8_worth 56 = .ok (.isub, 1) := by decide +kernel
theorem dX8_worth_57 : decode cX8_worth 57 = .ok (.ireturn, 1) := by decide +kernel
theorem dX8_worth_58 : decode cX8_worth 58 = .ok (.iconst 2, 1) := by decide +kernel
theorem dX8_worth_59 : decode cX8_worth 59 = .ok (.iload_n 2, 1) := by decide +kernel
theorem dX8_worth_60 : decode cX8_worth 60 = .ok (.bipush 7, 2) := by decide +kernel
theorem dX8_worth_62 : decode cX8_worth 62 = .ok (.iadd, 1) := by decide +kernel
theorem dX8_worth_63 : decode cX8_worth 63 = .ok (.imul, 1) := by decide +kernel
theorem dX8_worth_64 : decode cX8_worth 64 = .ok (.ireturn, 1) := by decide +kernel
theorem dX8_worth_65 : decode cX8_worth 65 = .ok (.bipush 93, 2) := by decide +kernel
theorem dX8_worth_67 : decode cX8_worth 67 = .ok (.iload_n 2, 1) := by decide +kernel
theorem dX8_worth_68 : decode cX8_worth 68 = .ok (.isub, 1) := by decide +kernel
theorem dX8_worth_69 : decode cX8_worth 69 = .ok (.ireturn, 1) := by decide +kernel
theorem dX8_worth_70 : decode cX8_worth 70 = .ok (.iconst 2, 1) := by decide +kernel
theorem dX8_worth_71 : decode cX8_worth 71 = .ok (.ireturn, 1) := by decide +kernel
theorem dX8_worth_72 : decode cX8_worth 72 = .ok (.iload_n 2, 1) := by decide +kernel
theorem dX8_worth_73 : decode cX8_worth 73 = .ok (.ireturn, 1) := by decide +kernel
theorem dX8_placeOf_0 : decode cX8_placeOf 0 = .ok (.iconst 0, 1) := by decide +kernel
theorem dX8_placeOf_1 : decode cX8_placeOf 1 = .ok (.istore_n 2, 1) := by decide +kernel
theorem dX8_placeOf_2 : decode cX8_placeOf 2 = .ok (.aload_n 0, 1) := by decide +kernel
theorem dX8_placeOf_3 : decode cX8_placeOf 3 = .ok (.getfield 7, 3) := by decide +kernel
theorem dX8_placeOf_6 : decode cX8_placeOf 6 = .ok (.bipush 6, 2) := by decide +kernel
theorem dX8_placeOf_8 : decode cX8_placeOf 8 = .ok (.iload_n 2, 1) := by decide +kernel
theorem dX8_placeOf_9 : decode cX8_placeOf 9 = .ok (.iadd, 1) := by decide +kernel
theorem dX8_placeOf_10 : decode cX8_placeOf 10 = .ok (.iaload, 1) := by decide +kernel
theorem dX8_placeOf_11 : decode cX8_placeOf 11 = .ok (.iload_n 1, 1) := by decide +kernel
theorem dX8_placeOf_12 : decode cX8_placeOf 12 = .ok (.if_icmp .eq 9, 3) := by decide +kernel
theorem dX8_placeOf_15 : decode cX8_placeOf 15 = .ok (.iinc 2 1, 3) := by decide +kernel
theorem dX8_placeOf_18 : decode cX8_placeOf 18 = .ok (.goto (-16), 3) := by decide +kernel
theorem dX8_placeOf_21 : decode cX8_placeOf 21 = .ok (.iload_n 2, 1) := by decide +kernel
theorem dX8_placeOf_22 : decode cX8_placeOf 22 = .ok (.ireturn, 1) := by decide +kernel
theorem dX8_told_0 : decode cX8_told 0 = .ok (.aload_n 0, 1) := by decide +kernel
theorem dX8_told_1 : decode cX8_told 1 = .ok (.iload_n 1, 1) := by decide +kernel
theorem dX8_told_2 : decode cX8_told 2 = .ok (.invokevirtual 112, 3) := by decide +kernel
theorem dX8_told_5 : decode cX8_told 5 = .ok (.ifCond .ne 6, 3) := by decide +kernel
theorem dX8_told_8 : decode cX8_told 8 = .ok (.ldc 90, 2) := by decide +kernel
theorem dX8_told_10 : decode cX8_told 10 = .ok (.ireturn, 1) := by decide +kernel
theorem dX8_told_11 : decode cX8_told 11 = .ok (.iload_n 2, 1) := by decide +kernel
theorem dX8_told_12 : decode cX8_told 12 = .ok (.tableswitch 86 0 7 #[48, 48, 48, 55, 61, 68, 74, 80], 48) := by decide +kernel
theorem dX8_told_60 : decode cX8_told 60 = .ok (.aload_n 0, 1) := by decide +kernel
theorem dX8_told_61 : decode cX8_told 61 = .ok (.iload_n 1, 1) := by decide +kernel
theorem dX8_told_62 : decode cX8_told 62 = .ok (.iload_n 2, 1) := by decide +kernel
theorem dX8_told_63 : decode cX8_told 63 = .ok (.invokevirtual 99, 3) := by decide +kernel
theorem dX8_told_66 : decode cX8_told 66 = .ok (.ireturn, 1) := by decide +kernel
theorem dX8_told_67 : decode cX8_told 67 = .ok (.aload_n 0, 1) := by decide +kernel
theorem dX8_told_68 : decode cX8_told 68 = .ok (.iload_n 1, 1) := by decide +kernel
theorem dX8_told_69 : decode cX8_told 69 = .ok (.invokevirtual 116, 3) := by decide +kernel
theorem dX8_told_72 : decode cX8_told 72 = .ok (.ireturn, 1) := by decide +kernel
theorem dX8_told_73 : decode cX8_told 73 = .ok (.aload_n 0, 1) := by decide +kernel
theorem dX8_told_74 : decode cX8_told 74 = .ok (.iload_n 1, 1) := by decide +kernel
theorem dX8_told_75 : decode cX8_told 75 = .ok (.iconst 3, 1) := by decide +kernel
theorem dX8_told_76 : decode cX8_told 76 = .ok (.invokevirtual 99, 3) := by decide +kernel
theorem dX8_told_79 : decode cX8_told 79 = .ok (.ireturn, 1) := by decide +kernel
theorem dX8_told_80 : decode cX8_told 80 = .ok (.aload_n 0, 1) := by decide +kernel
theorem dX8_told_81 : decode cX8_told 81 = .ok (.iload_n 1, 1) := by decide +kernel
theorem dX8_told_82 : decode cX8_told 82 = .ok (.invokevirtual 119, 3) := by decide +kernel
theorem dX8_told_85 : decode cX8_told 85 = .ok (.ireturn, 1) := by decide +kernel
theorem dX8_told_86 : decode cX8_told 86 = .ok (.aload_n 0, 1) := by decide +kernel
theorem dX8_told_87 : decode cX8_told 87 = .ok (.iload_n 1, 1) := by decide +kernel
theorem dX8_told_88 : decode cX8_told 88 = .ok (.invokevirtual 122, 3) := by decide +kernel
theorem dX8_told_91 : decode cX8_told 91 = .ok (.ireturn, 1) := by decide +kernel
theorem dX8_told_92 : decode cX8_told 92 = .ok (.aload_n 0, 1) := by decide +kernel
theorem dX8_told_93 : decode cX8_told 93 = .ok (.iload_n 1, 1) := by decide +kernel
theorem dX8_told_94 : decode cX8_told 94 = .ok (.invokevirtual 125, 3) := by decide +kernel
theorem dX8_told_97 : decode cX8_told 97 = .ok (.ireturn, 1) := by decide +kernel
theorem dX8_told_98 : decode cX8_told 98 = .ok (.ldc 90, 2) := by decide +kernel
theorem dX8_told_100 : decode cX8_told 100 = .ok (.ireturn, 1) := by decide +kernel
theorem dX8_isOf_0 : decode cX8_isOf 0 = .ok (.iload_n 0, 1) := by decide +kernel
theorem dX8_isOf_1 : decode cX8_isOf 1 = .ok (.iload_n 1, 1) := by decide +kernel
theorem dX8_isOf_2 : decode cX8_isOf 2 = .ok (.if_icmp .eq 27, 3) := by decide +kernel
theorem dX8_isOf_5 : decode cX8_isOf 5 = .ok (.iload_n 1, 1) := by decide +kernel
theorem dX8_isOf_6 : decode cX8_isOf 6 = .ok (.ifCond .eq 23, 3) := by decide +kernel
theorem dX8_isOf_9 : decode cX8_isOf 9 = .ok (.iload_n 1, 1) := by decide +kernel
theorem dX8_isOf_10 : decode cX8_isOf 10 = .ok (.iconst 1, 1) := by decide +kernel
theorem dX8_isOf_11 : decode cX8_isOf 11 = .ok (.if_icmp .ne 8, 3) := by decide +kernel
theorem dX8_isOf_14 : decode cX8_isOf 14 = .ok (.iload_n 0, 1) := by decide +kernel
theorem dX8_isOf_15 : decode cX8_isOf 15 = .ok (.iconst 3, 1) := by decide +kernel
theorem dX8_isOf_16 : decode cX8_isOf 16 = .ok (.if_icmp .eq 13, 3) := by decide +kernel
theorem dX8_isOf_19 : decode cX8_isOf 19 = .ok (.iload_n 1, 1) := by decide +kernel
theorem dX8_isOf_20 : decode cX8_isOf 20 = .ok (.iconst 2, 1) := by decide +kernel
theorem dX8_isOf_21 : decode cX8_isOf 21 = .ok (.if_icmp .ne 12, 3) := by decide +kernel
theorem dX8_isOf_24 : decode cX8_isOf 24 = .ok (.iload_n 0, 1) := by decide +kernel
theorem dX8_isOf_25 : decode cX8_isOf 25 = .ok (.iconst 4, 1) := by decide +kernel
theorem dX8_isOf_26 : decode cX8_isOf 26 = .ok (.if_icmp .ne 7, 3) := by decide +kernel
theorem dX8_isOf_29 : decode cX8_isOf 29 = .ok (.iconst 1, 1) := by decide +kernel
theorem dX8_isOf_30 : decode cX8_isOf 30 = .ok (.goto 4, 3) := by decide +kernel
theorem dX8_isOf_33 : decode cX8_isOf 33 = .ok (.iconst 0, 1) := by decide +kernel
theorem dX8_isOf_34 : decode cX8_isOf 34 = .ok (.ireturn, 1) := by decide +kernel
theorem dX8_as_0 : decode cX8_as 0 = .ok (.aload_n 0, 1) := by decide +kernel
theorem dX8_as_1 : decode cX8_as 1 = .ok (.iload_n 1, 1) := by decide +kernel
theorem dX8_as_2 : decode cX8_as 2 = .ok (.invokevirtual 112, 3) := by decide +kernel
theorem dX8_as_5 : decode cX8_as 5 = .ok (.ifCond .eq 15, 3) := by decide +kernel
theorem dX8_as_8 : decode cX8_as 8 = .ok (.iload_n 2, 1) := by decide +kernel
theorem dX8_as_9 : decode cX8_as 9 = .ok (.i2l, 1) := by decide +kernel
theorem dX8_as_10 : decode cX8_as 10 = .ok (.lconst 0, 1) := by decide +kernel
theorem dX8_as_11 : decode cX8_as 11 = .ok (.ldc2_w 84, 3) := by decide +kernel
theorem dX8_as_14 : decode cX8_as 14 = .ok (.invokestatic 75, 3) := by decide +kernel
theorem dX8_as_17 : decode cX8_as 17 = .ok (.ifCond .ne 6, 3) := by decide +kernel
theorem dX8_as_20 : decode cX8_as 20 = .ok (.ldc 90, 2) := by decide +kernel
theorem dX8_as_22 : decode cX8_as 22 = .ok (.ireturn, 1) := by decide +kernel
theorem dX8_as_23 : decode cX8_as 23 = .ok (.aload_n 0, 1) := by decide +kernel
theorem dX8_as_24 : decode cX8_as 24 = .ok (.iload_n 1, 1) := by decide +kernel
theorem dX8_as_25 : decode cX8_as 25 = .ok (.iconst 0, 1) := by decide +kernel
theorem dX8_as_26 : decode cX8_as 26 = .ok (.invokevirtual 99, 3) := by decide +kernel
theorem dX8_as_29 : decode cX8_as 29 = .ok (.iload_n 2, 1) := by decide +kernel
theorem dX8_as_30 : decode cX8_as 30 = .ok (.invokestatic 128, 3) := by decide +kernel
theorem dX8_as_33 : decode cX8_as 33 = .ok (.ifCond .eq 12, 3) := by decide +kernel
theorem dX8_as_36 : decode cX8_as 36 = .ok (.aload_n 0, 1) := by decide +kernel
theorem dX8_as_37 : decode cX8_as 37 = .ok (.iload_n 1, 1) := by decide +kernel
theorem dX8_as_38 : decode cX8_as 38 = .ok (.iconst 1, 1) := by decide +kernel
theorem dX8_as_39 : decode cX8_as 39 = .ok (.invokevirtual 99, 3) := by decide +kernel
theorem dX8_as_42 : decode cX8_as 42 = .ok (.goto 5, 3) := by decide +kernel
theorem dX8_as_45 : decode cX8_as 45 = .ok (.ldc 132, 2) := by decide +kernel
theorem dX8_as_47 : decode cX8_as 47 = .ok (.ireturn, 1) := by decide +kernel
theorem dX8_turns_0 : decode cX8_turns 0 = .ok (.aload_n 0, 1) := by decide +kernel
theorem dX8_turns_1 : decode cX8_turns 1 = .ok (.iload_n 1, 1) := by decide +kernel
theorem dX8_turns_2 : decode cX8_turns 2 = .ok (.invokevirtual 112, 3) := by decide +kernel
theorem dX8_turns_5 : decode cX8_turns 5 = .ok (.ifCond .eq 29, 3) := by decide +kernel
theorem dX8_turns_8 : decode cX8_turns 8 = .ok (.iload_n 2, 1) := by decide +kernel
theorem dX8_turns_9 : decode cX8_turns 9 = .ok (.i2l, 1) := by decide +kernel
theorem dX8_turns_10 : decode cX8_turns 10 = .ok (.lconst 0, 1) := by decide +kernel
theorem dX8_turns_11 : decode cX8_turns 11 = .ok (.ldc2_w 84, 3) := by decide +kernel
theorem dX8_turns_14 : decode cX8_turns 14 = .ok (.invokestatic 75, 3) := by decide +kernel
theorem dX8_turns_17 : decode cX8_turns 17 = .ok (.ifCond .eq 17, 3) := by decide +kernel
theorem dX8_turns_20 : decode cX8_turns 20 = .ok (.aload_n 0, 1) := by decide +kernel
theorem dX8_turns_21 : decode cX8_turns 21 = .ok (.bipush 20, 2) := by decide +kernel
theorem dX8_turns_23 : decode cX8_turns 23 = .ok (.iconst 4, 1) := by decide +kernel
theorem dX8_turns_24 : decode cX8_turns 24 = .ok (.iload_n 1, 1) := by decide +kernel
theorem dX8_turns_25 : decode cX8_turns 25 = .ok (.imul, 1) := by decide +kernel
theorem dX8_turns_26 : decode cX8_turns 26 = .ok (.iadd, 1) := by decide +kernel
theorem dX8_turns_27 : decode cX8_turns 27 = .ok (.iload_n 2, 1) := by decide +kernel
theorem dX8_turns_28 : decode cX8_turns 28 = .ok (.invokevirtual 133, 3) := by decide +kernel
theorem dX8_turns_31 : decode cX8_turns 31 = .ok (.goto 5, 3) := by decide +kernel
theorem dX8_turns_34 : decode cX8_turns 34 = .ok (.ldc 90, 2) := by decide +kernel
theorem dX8_turns_36 : decode cX8_turns 36 = .ok (.ireturn, 1) := by decide +kernel
theorem dX8_set_0 : decode cX8_set 0 = .ok (.aload_n 0, 1) := by decide +kernel
theorem dX8_set_1 : decode cX8_set 1 = .ok (.iload_n 1, 1) := by decide +kernel
theorem dX8_set_2 : decode cX8_set 2 = .ok (.invokevirtual 112, 3) := by decide +kernel
theorem dX8_set_5 : decode cX8_set 5 = .ok (.ifCond .eq 47, 3) := by decide +kernel
theorem dX8_set_8 : decode cX8_set 8 = .ok (.iload_n 2, 1) := by decide +kernel
theorem dX8_set_9 : decode cX8_set 9 = .ok (.i2l, 1) := by decide +kernel
theorem dX8_set_10 : decode cX8_set 10 = .ok (.lconst 1, 1) := by decide +kernel
theorem dX8_set_11 : decode cX8_set 11 = .ok (.ldc2_w 136, 3) := by decide +kernel
theorem dX8_set_14 : decode cX8_set 14 = .ok (.invokestatic 75, 3) := by decide +kernel
theorem dX8_set_17 : decode cX8_set 17 = .ok (.ifCond .eq 35, 3) := by decide +kernel
theorem dX8_set_20 : decode cX8_set 20 = .ok (.iload_n 3, 1) := by decide +kernel
theorem dX8_set_21 : decode cX8_set 21 = .ok (.i2l, 1) := by decide +kernel
theorem dX8_set_22 : decode cX8_set 22 = .ok (.iload_n 2, 1) := by decide +kernel
theorem dX8_set_23 : decode cX8_set 23 = .ok (.iconst 1, 1) := by decide +kernel
theorem dX8_set_24 : decode cX8_set 24 = .ok (.if_icmp .ne 7, 3) := by decide +kernel
theorem dX8_set_27 : decode cX8_set 27 = .ok (.lconst 1, 1) := by decide +kernel
theorem dX8_set_28 : decode cX8_set 28 = .ok (.goto 4, 3) := by decide +kernel
theorem dX8_set_31 : decode cX8_set 31 = .ok (.lconst 0, 1) := by decide +kernel
theorem dX8_set_32 : decode cX8_set 32 = .ok (.iload_n 2, 1) := by decide +kernel
theorem dX8_set_33 : decode cX8_set 33 = .ok (.iconst 1, 1) := by decide +kernel
theorem dX8_set_34 : decode cX8_set 34 = .ok (.if_icmp .ne 9, 3) := by decide +kernel
theorem dX8_set_37 : decode cX8_set 37 = .ok (.ldc2_w 86, 3) := by decide +kernel
theorem dX8_set_40 : decode cX8_set 40 = .ok (.goto 6, 3) := by decide +kernel
theorem dX8_set_43 : decode cX8_set 43 = .ok (.ldc2_w 88, 3) := by decide +kernel
theorem dX8_set_46 : decode cX8_set 46 = .ok (.invokestatic 75, 3) := by decide +kernel
theorem dX8_set_49 : decode cX8_set 49 = .ok (.ifCond .ne 6, 3) := by decide +kernel
theorem dX8_set_52 : decode cX8_set 52 = .ok (.ldc 90, 2) := by decide +kernel
theorem dX8_set_54 : decode cX8_set 54 = .ok (.ireturn, 1) := by decide +kernel
theorem dX8_set_55 : decode cX8_set 55 = .ok (.aload_n 0, 1) := by decide +kernel
theorem dX8_set_56 : decode cX8_set 56 = .ok (.bipush 20, 2) := by decide +kernel
theorem dX8_set_58 : decode cX8_set 58 = .ok (.iconst 4, 1) := by decide +kernel
theorem dX8_set_59 : decode cX8_set 59 = .ok (.iload_n 1, 1) := by decide +kernel
theorem dX8_set_60 : decode cX8_set 60 = .ok (.imul, 1) := by decide +kernel
theorem dX8_set_61 : decode cX8_set 61 = .ok (.iadd, 1) := by decide +kernel
theorem dX8_set_62 : decode cX8_set 62 = .ok (.iload_n 2, 1) := by decide +kernel
theorem dX8_set_63 : decode cX8_set 63 = .ok (.iadd, 1) := by decide +kernel
theorem dX8_set_64 : decode cX8_set 64 = .ok (.iload_n 3, 1) := by decide +kernel
theorem dX8_set_65 : decode cX8_set 65 = .ok (.invokevirtual 133, 3) := by decide +kernel
theorem dX8_set_68 : decode cX8_set 68 = .ok (.ireturn, 1) := by decide +kernel
theorem dX8_goesTo_0 : decode cX8_goesTo 0 = .ok (.aload_n 0, 1) := by decide +kernel
theorem dX8_goesTo_1 : decode cX8_goesTo 1 = .ok (.getfield 7, 3) := by decide +kernel
theorem dX8_goesTo_4 : decode cX8_goesTo 4 = .ok (.bipush 6, 2) := by decide +kernel
theorem dX8_goesTo_6 : decode cX8_goesTo 6 = .ok (.iload_n 1, 1) := by decide +kernel
theorem dX8_goesTo_7 : decode cX8_goesTo 7 = .ok (.iadd, 1) := by decide +kernel
theorem dX8_goesTo_8 : decode cX8_goesTo 8 = .ok (.iaload, 1) := by decide +kernel
theorem dX8_goesTo_9 : decode cX8_goesTo 9 = .ok (.istore_n 3, 1) := by decide +kernel
theorem dX8_goesTo_10 : decode cX8_goesTo 10 = .ok (.iload_n 1, 1) := by decide +kernel
theorem dX8_goesTo_11 : decode cX8_goesTo 11 = .ok (.istore 4, 2) := by decide +kernel
theorem dX8_goesTo_13 : decode cX8_goesTo 13 = .ok (.iload 4, 2) := by decide +kernel
theorem dX8_goesTo_15 : decode cX8_goesTo 15 = .ok (.iload_n 2, 1) := by decide +kernel
theorem dX8_goesTo_16 : decode cX8_goesTo 16 = .ok (.if_icmp .ge 31, 3) := by decide +kernel
theorem dX8_goesTo_19 : decode cX8_goesTo 19 = .ok (.aload_n 0, 1) := by decide +kernel
theorem dX8_goesTo_20 : decode cX8_goesTo 20 = .ok (.getfield 7, 3) := by decide +kernel
theorem dX8_goesTo_23 : decode cX8_goesTo 23 = .ok (.bipush 6, 2) := by decide +kernel
theorem dX8_goesTo_25 : decode cX8_goesTo 25 = .ok (.iload 4, 2) := by decide +kernel
theorem dX8_goesTo_27 : decode cX8_goesTo 27 = .ok (.iadd, 1) := by decide +kernel
theorem dX8_goesTo_28 : decode cX8_goesTo 28 = .ok (.aload_n 0, 1) := by decide +kernel
theorem dX8_goesTo_29 : decode cX8_goesTo 29 = .ok (.getfield 7, 3) := by decide +kernel
theorem dX8_goesTo_32 : decode cX8_goesTo 32 = .ok (.bipush 6, 2) := by decide +kernel
theorem dX8_goesTo_34 : decode cX8_goesTo 34 = .ok (.iload 4, 2) := by decide +kernel
theorem dX8_goesTo_36 : decode cX8_goesTo 36 = .ok (.iadd, 1) := by decide +kernel
theorem dX8_goesTo_37 : decode cX8_goesTo 37 = .ok (.iconst 1, 1) := by decide +kernel
theorem dX8_goesTo_38 : decode cX8_goesTo 38 = .ok (.iadd, 1) := by decide +kernel
theorem dX8_goesTo_39 : decode cX8_goesTo 39 = .ok (.iaload, 1) := by decide +kernel
theorem dX8_goesTo_40 : decode cX8_goesTo 40 = .ok (.iastore, 1) := by decide +kernel
theorem dX8_goesTo_41 : decode cX8_goesTo 41 = .ok (.iinc 4 1, 3) := by decide +kernel
theorem dX8_goesTo_44 : decode cX8_goesTo 44 = .ok (.goto (-31), 3) := by decide +kernel
theorem dX8_goesTo_47 : decode cX8_goesTo 47 = .ok (.iload_n 1, 1) := by decide +kernel
theorem dX8_goesTo_48 : decode cX8_goesTo 48 = .ok (.istore 4, 2) := by decide +kernel
theorem dX8_goesTo_50 : decode cX8_goesTo 50 = .ok (.iload 4, 2) := by decide +kernel
theorem dX8_goesTo_52 : decode cX8_goesTo 52 = .ok (.iload_n 2, 1) := by decide +kernel
theorem dX8_goesTo_53 : decode cX8_goesTo 53 = .ok (.if_icmp .le 31, 3) := by decide +kernel
theorem dX8_goesTo_56 : decode cX8_goesTo 56 = .ok (.aload_n 0, 1) := by decide +kernel
theorem dX8_goesTo_57 : decode cX8_goesTo 57 = .ok (.getfield 7, 3) := by decide +kernel
theorem dX8_goesTo_60 : decode cX8_goesTo 60 = .ok (.bipush 6, 2) := by decide +kernel
theorem dX8_goesTo_62 : decode cX8_goesTo 62 = .ok (.iload 4, 2) := by decide +kernel
theorem dX8_goesTo_64 : decode cX8_goesTo 64 = .ok (.iadd, 1) := by decide +kernel
theorem dX8_goesTo_65 : decode cX8_goesTo 65 = .ok (.aload_n 0, 1) := by decide +kernel
theorem dX8_goesTo_66 : decode cX8_goesTo 66 = .ok (.getfield 7, 3) := by decide +kernel
theorem dX8_goesTo_69 : decode cX8_goesTo 69 = .ok (.bipush 6, 2) := by decide +kernel
theorem dX8_goesTo_71 : decode cX8_goesTo 71 = .ok (.iload 4, 2) := by decide +kernel
theorem dX8_goesTo_73 : decode cX8_goesTo 73 = .ok (.iadd, 1) := by decide +kernel
theorem dX8_goesTo_74 : decode cX8_goesTo 74 = .ok (.iconst 1, 1) := by decide +kernel
theorem dX8_goesTo_75 : decode cX8_goesTo 75 = .ok (.isub, 1) := by decide +kernel
theorem dX8_goesTo_76 : decode cX8_goesTo 76 = .ok (.iaload, 1) := by decide +kernel
theorem dX8_goesTo_77 : decode cX8_goesTo 77 = .ok (.iastore, 1) := by decide +kernel
theorem dX8_goesTo_78 : decode cX8_goesTo 78 = .ok (.iinc 4 (-1), 3) := by decide +kernel
theorem dX8_goesTo_81 : decode cX8_goesTo 81 = .ok (.goto (-31), 3) := by decide +kernel
theorem dX8_goesTo_84 : decode cX8_goesTo 84 = .ok (.aload_n 0, 1) := by decide +kernel
theorem dX8_goesTo_85 : decode cX8_goesTo 85 = .ok (.getfield 7, 3) := by decide +kernel
theorem dX8_goesTo_88 : decode cX8_goesTo 88 = .ok (.bipush 6, 2) := by decide +kernel
theorem dX8_goesTo_90 : decode cX8_goesTo 90 = .ok (.iload_n 2, 1) := by decide +kernel
theorem dX8_goesTo_91 : decode cX8_goesTo 91 = .ok (.iadd, 1) := by decide +kernel
theorem dX8_goesTo_92 : decode cX8_goesTo 92 = .ok (.iload_n 3, 1) := by decide +kernel
theorem dX8_goesTo_93 : decode cX8_goesTo 93 = .ok (.iastore, 1) := by decide +kernel
theorem dX8_goesTo_94 : decode cX8_goesTo 94 = .ok (.return_, 1) := by decide +kernel
theorem dX8_puts_0 : decode cX8_puts 0 = .ok (.aload_n 0, 1) := by decide +kernel
theorem dX8_puts_1 : decode cX8_puts 1 = .ok (.iload_n 1, 1) := by decide +kernel
theorem dX8_puts_2 : decode cX8_puts 2 = .ok (.invokevirtual 112, 3) := by decide +kernel
theorem dX8_puts_5 : decode cX8_puts 5 = .ok (.ifCond .eq 11, 3) := by decide +kernel
theorem dX8_puts_8 : decode cX8_puts 8 = .ok (.aload_n 0, 1) := by decide +kernel
theorem dX8_puts_9 : decode cX8_puts 9 = .ok (.iload_n 2, 1) := by decide +kernel
theorem dX8_puts_10 : decode cX8_puts 10 = .ok (.invokevirtual 112, 3) := by decide +kernel
theorem dX8_puts_13 : decode cX8_puts 13 = .ok (.ifCond .ne 6, 3) := by decide +kernel
theorem dX8_puts_16 : decode cX8_puts 16 = .ok (.ldc 90, 2) := by decide +kernel
theorem dX8_puts_18 : decode cX8_puts 18 = .ok (.ireturn, 1) := by decide +kernel
theorem dX8_puts_19 : decode cX8_puts 19 = .ok (.aload_n 0, 1) := by decide +kernel
theorem dX8_puts_20 : decode cX8_puts 20 = .ok (.iload_n 1, 1) := by decide +kernel
theorem dX8_puts_21 : decode cX8_puts 21 = .ok (.invokevirtual 116, 3) := by decide +kernel
theorem dX8_puts_24 : decode cX8_puts 24 = .ok (.istore_n 3, 1) := by decide +kernel
theorem dX8_puts_25 : decode cX8_puts 25 = .ok (.aload_n 0, 1) := by decide +kernel
theorem dX8_puts_26 : decode cX8_puts 26 = .ok (.iload_n 3, 1) := by decide +kernel
theorem dX8_puts_27 : decode cX8_puts 27 = .ok (.iload_n 2, 1) := by decide +kernel
theorem dX8_puts_28 : decode cX8_puts 28 = .ok (.invokevirtual 138, 3) := by decide +kernel
theorem dX8_puts_31 : decode cX8_puts 31 = .ok (.iload_n 3, 1) := by decide +kernel
theorem dX8_puts_32 : decode cX8_puts 32 = .ok (.ireturn, 1) := by decide +kernel
theorem dX8_at_0 : decode cX8_at 0 = .ok (.aload_n 0, 1) := by decide +kernel
theorem dX8_at_1 : decode cX8_at 1 = .ok (.iload_n 1, 1) := by decide +kernel
theorem dX8_at_2 : decode cX8_at 2 = .ok (.invokevirtual 112, 3) := by decide +kernel
theorem dX8_at_5 : decode cX8_at 5 = .ok (.ifCond .eq 15, 3) := by decide +kernel
theorem dX8_at_8 : decode cX8_at 8 = .ok (.aload_n 0, 1) := by decide +kernel
theorem dX8_at_9 : decode cX8_at 9 = .ok (.getfield 7, 3) := by decide +kernel
theorem dX8_at_12 : decode cX8_at 12 = .ok (.bipush 6, 2) := by decide +kernel
theorem dX8_at_14 : decode cX8_at 14 = .ok (.iload_n 1, 1) := by decide +kernel
theorem dX8_at_15 : decode cX8_at 15 = .ok (.iadd, 1) := by decide +kernel
theorem dX8_at_16 : decode cX8_at 16 = .ok (.iaload, 1) := by decide +kernel
theorem dX8_at_17 : decode cX8_at 17 = .ok (.goto 5, 3) := by decide +kernel
theorem dX8_at_20 : decode cX8_at 20 = .ok (.ldc 90, 2) := by decide +kernel
theorem dX8_at_22 : decode cX8_at 22 = .ok (.ireturn, 1) := by decide +kernel
theorem dX8_swaps_0 : decode cX8_swaps 0 = .ok (.aload_n 0, 1) := by decide +kernel
theorem dX8_swaps_1 : decode cX8_swaps 1 = .ok (.getfield 7, 3) := by decide +kernel
theorem dX8_swaps_4 : decode cX8_swaps 4 = .ok (.bipush 6, 2) := by decide +kernel
theorem dX8_swaps_6 : decode cX8_swaps 6 = .ok (.iload_n 1, 1) := by decide +kernel
theorem dX8_swaps_7 : decode cX8_swaps 7 = .ok (.iadd, 1) := by decide +kernel
theorem dX8_swaps_8 : decode cX8_swaps 8 = .ok (.iaload, 1) := by decide +kernel
theorem dX8_swaps_9 : decode cX8_swaps 9 = .ok (.istore_n 3, 1) := by decide +kernel
theorem dX8_swaps_10 : decode cX8_swaps 10 = .ok (.aload_n 0, 1) := by decide +kernel
theorem dX8_swaps_11 : decode cX8_swaps 11 = .ok (.getfield 7, 3) := by decide +kernel
theorem dX8_swaps_14 : decode cX8_swaps 14 = .ok (.bipush 6, 2) := by decide +kernel
theorem dX8_swaps_16 : decode cX8_swaps 16 = .ok (.iload_n 1, 1) := by decide +kernel
theorem dX8_swaps_17 : decode cX8_swaps 17 = .ok (.iadd, 1) := by decide +kernel
theorem dX8_swaps_18 : decode cX8_swaps 18 = .ok (.aload_n 0, 1) := by decide +kernel
theorem dX8_swaps_19 : decode cX8_swaps 19 = .ok (.getfield 7, 3) := by decide +kernel
theorem dX8_swaps_22 : decode cX8_swaps 22 = .ok (.bipush 6, 2) := by decide +kernel
theorem dX8_swaps_24 : decode cX8_swaps 24 = .ok (.iload_n 2, 1) := by decide +kernel
theorem dX8_swaps_25 : decode cX8_swaps 25 = .ok (.iadd, 1) := by decide +kernel
theorem dX8_swaps_26 : decode cX8_swaps 26 = .ok (.iaload, 1) := by decide +kernel
theorem dX8_swaps_27 : decode cX8_swaps 27 = .ok (.iastore, 1) := by decide +kernel
theorem dX8_swaps_28 : decode cX8_swaps 28 = .ok (.aload_n 0, 1) := by decide +kernel
theorem dX8_swaps_29 : decode cX8_swaps 29 = .ok (.getfield 7, 3) := by decide +kernel
theorem dX8_swaps_32 : decode cX8_swaps 32 = .ok (.bipush 6, 2) := by decide +kernel
theorem dX8_swaps_34 : decode cX8_swaps 34 = .ok (.iload_n 2, 1) := by decide +kernel
theorem dX8_swaps_35 : decode cX8_swaps 35 = .ok (.iadd, 1) := by decide +kernel
theorem dX8_swaps_36 : decode cX8_swaps 36 = .ok (.iload_n 3, 1) := by decide +kernel
theorem dX8_swaps_37 : decode cX8_swaps 37 = .ok (.iastore, 1) := by decide +kernel
theorem dX8_swaps_38 : decode cX8_swaps 38 = .ok (.return_, 1) := by decide +kernel
theorem dX8_turnsOver_0 : decode cX8_turnsOver 0 = .ok (.iconst 0, 1) := by decide +kernel
theorem dX8_turnsOver_1 : decode cX8_turnsOver 1 = .ok (.istore_n 1, 1) := by decide +kernel
theorem dX8_turnsOver_2 : decode cX8_turnsOver 2 = .ok (.iload_n 1, 1) := by decide +kernel
theorem dX8_turnsOver_3 : decode cX8_turnsOver 3 = .ok (.aload_n 0, 1) := by decide +kernel
theorem dX8_turnsOver_4 : decode cX8_turnsOver 4 = .ok (.getfield 7, 3) := by decide +kernel
theorem dX8_turnsOver_7 : decode cX8_turnsOver 7 = .ok (.iconst 0, 1) := by decide +kernel
theorem dX8_turnsOver_8 : decode cX8_turnsOver 8 = .ok (.iaload, 1) := by decide +kernel
theorem dX8_turnsOver_9 : decode cX8_turnsOver 9 = .ok (.iconst 2, 1) := by decide +kernel
theorem dX8_turnsOver_10 : decode cX8_turnsOver 10 = .ok (.idiv, 1) := by decide +kernel
theorem dX8_turnsOver_11 : decode cX8_turnsOver 11 = .ok (.if_icmp .ge 24, 3) := by decide +kernel
theorem dX8_turnsOver_14 : decode cX8_turnsOver 14 = .ok (.aload_n 0, 1) := by decide +kernel
theorem dX8_turnsOver_15 : decode cX8_turnsOver 15 = .ok (.iload_n 1, 1) := by decide +kernel
theorem dX8_turnsOver_16 : decode cX8_turnsOver 16 = .ok (.aload_n 0, 1) := by decide +kernel
theorem dX8_turnsOver_17 : decode cX8_turnsOver 17 = .ok (.getfield 7, 3) := by decide +kernel
theorem dX8_turnsOver_20 : decode cX8_turnsOver 20 = .ok (.iconst 0, 1) := by decide +kernel
theorem dX8_turnsOver_21 : decode cX8_turnsOver 21 = .ok (.iaload, 1) := by decide +kernel
theorem dX8_turnsOver_22 : decode cX8_turnsOver 22 = .ok (.iconst 1, 1) := by decide +kernel
theorem dX8_turnsOver_23 : decode cX8_turnsOver 23 = .ok (.isub, 1) := by decide +kernel
theorem dX8_turnsOver_24 : decode cX8_turnsOver 24 = .ok (.iload_n 1, 1) := by decide +kernel
theorem dX8_turnsOver_25 : decode cX8_turnsOver 25 = .ok (.isub, 1) := by decide +kernel
theorem dX8_turnsOver_26 : decode cX8_turnsOver 26 = .ok (.invokevirtual 142, 3) := by decide +kernel
theorem dX8_turnsOver_29 : decode cX8_turnsOver 29 = .ok (.iinc 1 1, 3) := by decide +kernel
theorem dX8_turnsOver_32 : decode cX8_turnsOver 32 = .ok (.goto (-30), 3) := by decide +kernel
theorem dX8_turnsOver_35 : decode cX8_turnsOver 35 = .ok (.return_, 1) := by decide +kernel
theorem dX8_halt_0 : decode cX8_halt 0 = .ok (.aload_n 0, 1) := by decide +kernel
theorem dX8_halt_1 : decode cX8_halt 1 = .ok (.invokevirtual 145, 3) := by decide +kernel
theorem dX8_halt_4 : decode cX8_halt 4 = .ok (.aload_n 0, 1) := by decide +kernel
theorem dX8_halt_5 : decode cX8_halt 5 = .ok (.getfield 7, 3) := by decide +kernel
theorem dX8_halt_8 : decode cX8_halt 8 = .ok (.iconst 0, 1) := by decide +kernel
theorem dX8_halt_9 : decode cX8_halt 9 = .ok (.iaload, 1) := by decide +kernel
theorem dX8_halt_10 : decode cX8_halt 10 = .ok (.ireturn, 1) := by decide +kernel
theorem dX8_bump_0 : decode cX8_bump 0 = .ok (.iload_n 1, 1) := by decide +kernel
theorem dX8_bump_1 : decode cX8_bump 1 = .ok (.i2l, 1) := by decide +kernel
theorem dX8_bump_2 : decode cX8_bump 2 = .ok (.lconst 0, 1) := by decide +kernel
theorem dX8_bump_3 : decode cX8_bump 3 = .ok (.ldc2_w 148, 3) := by decide +kernel
theorem dX8_bump_6 : decode cX8_bump 6 = .ok (.invokestatic 75, 3) := by decide +kernel
theorem dX8_bump_9 : decode cX8_bump 9 = .ok (.ifCond .eq 12, 3) := by decide +kernel
theorem dX8_bump_12 : decode cX8_bump 12 = .ok (.aload_n 0, 1) := by decide +kernel
theorem dX8_bump_13 : decode cX8_bump 13 = .ok (.iconst 4, 1) := by decide +kernel
theorem dX8_bump_14 : decode cX8_bump 14 = .ok (.iload_n 1, 1) := by decide +kernel
theorem dX8_bump_15 : decode cX8_bump 15 = .ok (.invokevirtual 133, 3) := by decide +kernel
theorem dX8_bump_18 : decode cX8_bump 18 = .ok (.goto 5, 3) := by decide +kernel
theorem dX8_bump_21 : decode cX8_bump 21 = .ok (.ldc 90, 2) := by decide +kernel
theorem dX8_bump_23 : decode cX8_bump 23 = .ok (.ireturn, 1) := by decide +kernel
theorem dX8_deal_0 : decode cX8_deal 0 = .ok (.iload_n 1, 1) := by decide +kernel
theorem dX8_deal_1 : decode cX8_deal 1 = .ok (.i2l, 1) := by decide +kernel
theorem dX8_deal_2 : decode cX8_deal 2 = .ok (.lconst 1, 1) := by decide +kernel
theorem dX8_deal_3 : decode cX8_deal 3 = .ok (.ldc2_w 150, 3) := by decide +kernel
theorem dX8_deal_6 : decode cX8_deal 6 = .ok (.invokestatic 75, 3) := by decide +kernel
theorem dX8_deal_9 : decode cX8_deal 9 = .ok (.ifCond .ne 6, 3) := by decide +kernel
theorem dX8_deal_12 : decode cX8_deal 12 = .ok (.ldc 90, 2) := by decide +kernel
theorem dX8_deal_14 : decode cX8_deal 14 = .ok (.ireturn, 1) := by decide +kernel
theorem dX8_deal_15 : decode cX8_deal 15 = .ok (.iconst 0, 1) := by decide +kernel
theorem dX8_deal_16 : decode cX8_deal 16 = .ok (.istore_n 2, 1) := by decide +kernel
theorem dX8_deal_17 : decode cX8_deal 17 = .ok (.iload_n 2, 1) := by decide +kernel
theorem dX8_deal_18 : decode cX8_deal 18 = .ok (.iload_n 1, 1) := by decide +kernel
theorem dX8_deal_19 : decode cX8_deal 19 = .ok (.if_icmp .ge 53, 3) := by decide +kernel
theorem dX8_deal_22 : decode cX8_deal 22 = .ok (.aload_n 0, 1) := by decide +kernel
theorem dX8_deal_23 : decode cX8_deal 23 = .ok (.getfield 7, 3) := by decide +kernel
theorem dX8_deal_26 : decode cX8_deal 26 = .ok (.iconst 0, 1) := by decide +kernel
theorem dX8_deal_27 : decode cX8_deal 27 = .ok (.iaload, 1) := by decide +kernel
theorem dX8_deal_28 : decode cX8_deal 28 = .ok (.bipush 14, 2) := by decide +kernel
theorem dX8_deal_30 : decode cX8_deal 30 = .ok (.if_icmp .ge 42, 3) := by decide +kernel
theorem dX8_deal_33 : decode cX8_deal 33 = .ok (.aload_n 0, 1) := by decide +kernel
theorem dX8_deal_34 : decode cX8_deal 34 = .ok (.invokevirtual 152, 3) := by decide +kernel
theorem dX8_deal_37 : decode cX8_deal 37 = .ok (.bipush 6, 2) := by decide +kernel
theorem dX8_deal_39 : decode cX8_deal 39 = .ok (.irem, 1) := by decide +kernel
theorem dX8_deal_40 : decode cX8_deal 40 = .ok (.istore_n 3, 1) := by decide +kernel
theorem dX8_deal_41 : decode cX8_deal 41 = .ok (.iconst 1, 1) := by decide +kernel
theorem dX8_deal_42 : decode cX8_deal 42 = .ok (.aload_n 0, 1) := by decide +kernel
theorem dX8_deal_43 : decode cX8_deal 43 = .ok (.invokevirtual 152, 3) := by decide +kernel
theorem dX8_deal_46 : decode cX8_deal 46 = .ok (.bipush 99, 2) := by decide +kernel
theorem dX8_deal_48 : decode cX8_deal 48 = .ok (.irem, 1) := by decide +kernel
theorem dX8_deal_49 : decode cX8_deal 49 = .ok (.iadd, 1) := by decide +kernel
theorem dX8_deal_50 : decode cX8_deal 50 = .ok (.istore 4, 2) := by decide +kernel
theorem dX8_deal_52 : decode cX8_deal 52 = .ok (.aload_n 0, 1) := by decide +kernel
theorem dX8_deal_53 : decode cX8_deal 53 = .ok (.iload_n 3, 1) := by decide +kernel
theorem dX8_deal_54 : decode cX8_deal 54 = .ok (.iload 4, 2) := by decide +kernel
theorem dX8_deal_56 : decode cX8_deal 56 = .ok (.aload_n 0, 1) := by decide +kernel
theorem dX8_deal_57 : decode cX8_deal 57 = .ok (.invokevirtual 152, 3) := by decide +kernel
theorem dX8_deal_60 : decode cX8_deal 60 = .ok (.bipush 10, 2) := by decide +kernel
theorem dX8_deal_62 : decode cX8_deal 62 = .ok (.irem, 1) := by decide +kernel
theorem dX8_deal_63 : decode cX8_deal 63 = .ok (.invokevirtual 92, 3) := by decide +kernel
theorem dX8_deal_66 : decode cX8_deal 66 = .ok (.iinc 2 1, 3) := by decide +kernel
theorem dX8_deal_69 : decode cX8_deal 69 = .ok (.goto (-52), 3) := by decide +kernel
theorem dX8_deal_72 : decode cX8_deal 72 = .ok (.iload_n 2, 1) := by decide +kernel
theorem dX8_deal_73 : decode cX8_deal 73 = .ok (.ireturn, 1) := by decide +kernel
theorem dX8_seed_0 : decode cX8_seed 0 = .ok (.aload_n 0, 1) := by decide +kernel
theorem dX8_seed_1 : decode cX8_seed 1 = .ok (.iconst 5, 1) := by decide +kernel
theorem dX8_seed_2 : decode cX8_seed 2 = .ok (.iload_n 1, 1) := by decide +kernel
theorem dX8_seed_3 : decode cX8_seed 3 = .ok (.invokevirtual 133, 3) := by decide +kernel
theorem dX8_seed_6 : decode cX8_seed 6 = .ok (.ireturn, 1) := by decide +kernel
theorem dX8_climbs_0 : decode cX8_climbs 0 = .ok (.aload_n 0, 1) := by decide +kernel
theorem dX8_climbs_1 : decode cX8_climbs 1 = .ok (.getfield 7, 3) := by decide +kernel
theorem dX8_climbs_4 : decode cX8_climbs 4 = .ok (.bipush 6, 2) := by decide +kernel
theorem dX8_climbs_6 : decode cX8_climbs 6 = .ok (.iload_n 1, 1) := by decide +kernel
theorem dX8_climbs_7 : decode cX8_climbs 7 = .ok (.iadd, 1) := by decide +kernel
theorem dX8_climbs_8 : decode cX8_climbs 8 = .ok (.iaload, 1) := by decide +kernel
theorem dX8_climbs_9 : decode cX8_climbs 9 = .ok (.istore_n 2, 1) := by decide +kernel
theorem dX8_climbs_10 : decode cX8_climbs 10 = .ok (.aload_n 0, 1) := by decide +kernel
theorem dX8_climbs_11 : decode cX8_climbs 11 = .ok (.getfield 7, 3) := by decide +kernel
theorem dX8_climbs_14 : decode cX8_climbs 14 = .ok (.bipush 6, 2) := by decide +kernel
theorem dX8_climbs_16 : decode cX8_climbs 16 = .ok (.iload_n 1, 1) := by decide +kernel
theorem dX8_climbs_17 : decode cX8_climbs 17 = .ok (.iadd, 1) := by decide +kernel
theorem dX8_climbs_18 : decode cX8_climbs 18 = .ok (.iconst 1, 1) := by decide +kernel
theorem dX8_climbs_19 : decode cX8_climbs 19 = .ok (.iadd, 1) := by decide +kernel
theorem dX8_climbs_20 : decode cX8_climbs 20 = .ok (.iaload, 1) := by decide +kernel
theorem dX8_climbs_21 : decode cX8_climbs 21 = .ok (.istore_n 3, 1) := by decide +kernel
theorem dX8_climbs_22 : decode cX8_climbs 22 = .ok (.aload_n 0, 1) := by decide +kernel
theorem dX8_climbs_23 : decode cX8_climbs 23 = .ok (.iload_n 3, 1) := by decide +kernel
theorem dX8_climbs_24 : decode cX8_climbs 24 = .ok (.invokevirtual 119, 3) := by decide +kernel
theorem dX8_climbs_27 : decode cX8_climbs 27 = .ok (.aload_n 0, 1) := by decide +kernel
theorem dX8_climbs_28 : decode cX8_climbs 28 = .ok (.iload_n 2, 1) := by decide +kernel
theorem dX8_climbs_29 : decode cX8_climbs 29 = .ok (.invokevirtual 119, 3) := by decide +kernel
theorem dX8_climbs_32 : decode cX8_climbs 32 = .ok (.isub, 1) := by decide +kernel
theorem dX8_climbs_33 : decode cX8_climbs 33 = .ok (.aload_n 0, 1) := by decide +kernel
theorem dX8_climbs_34 : decode cX8_climbs 34 = .ok (.iload_n 3, 1) := by decide +kernel
theorem dX8_climbs_35 : decode cX8_climbs 35 = .ok (.invokevirtual 122, 3) := by decide +kernel
theorem dX8_climbs_38 : decode cX8_climbs 38 = .ok (.aload_n 0, 1) := by decide +kernel
theorem dX8_climbs_39 : decode cX8_climbs 39 = .ok (.iload_n 2, 1) := by decide +kernel
theorem dX8_climbs_40 : decode cX8_climbs 40 = .ok (.invokevirtual 122, 3) := by decide +kernel
theorem dX8_climbs_43 : decode cX8_climbs 43 = .ok (.iadd, 1) := by decide +kernel
theorem dX8_climbs_44 : decode cX8_climbs 44 = .ok (.if_icmp .le 7, 3) := by decide +kernel
theorem dX8_climbs_47 : decode cX8_climbs 47 = .ok (.iconst 1, 1) := by decide +kernel
theorem dX8_climbs_48 : decode cX8_climbs 48 = .ok (.goto 4, 3) := by decide +kernel
theorem dX8_climbs_51 : decode cX8_climbs 51 = .ok (.iconst 0, 1) := by decide +kernel
theorem dX8_climbs_52 : decode cX8_climbs 52 = .ok (.ireturn, 1) := by decide +kernel
theorem dX8_goesOn_0 : decode cX8_goesOn 0 = .ok (.aload_n 0, 1) := by decide +kernel
theorem dX8_goesOn_1 : decode cX8_goesOn 1 = .ok (.getfield 7, 3) := by decide +kernel
theorem dX8_goesOn_4 : decode cX8_goesOn 4 = .ok (.iconst 2, 1) := by decide +kernel
theorem dX8_goesOn_5 : decode cX8_goesOn 5 = .ok (.iaload, 1) := by decide +kernel
theorem dX8_goesOn_6 : decode cX8_goesOn 6 = .ok (.iconst 2, 1) := by decide +kernel
theorem dX8_goesOn_7 : decode cX8_goesOn 7 = .ok (.irem, 1) := by decide +kernel
theorem dX8_goesOn_8 : decode cX8_goesOn 8 = .ok (.istore_n 1, 1) := by decide +kernel
theorem dX8_goesOn_9 : decode cX8_goesOn 9 = .ok (.iload_n 1, 1) := by decide +kernel
theorem dX8_goesOn_10 : decode cX8_goesOn 10 = .ok (.iconst 1, 1) := by decide +kernel
theorem dX8_goesOn_11 : decode cX8_goesOn 11 = .ok (.iadd, 1) := by decide +kernel
theorem dX8_goesOn_12 : decode cX8_goesOn 12 = .ok (.aload_n 0, 1) := by decide +kernel
theorem dX8_goesOn_13 : decode cX8_goesOn 13 = .ok (.getfield 7, 3) := by decide +kernel
theorem dX8_goesOn_16 : decode cX8_goesOn 16 = .ok (.iconst 0, 1) := by decide +kernel
theorem dX8_goesOn_17 : decode cX8_goesOn 17 = .ok (.iaload, 1) := by decide +kernel
theorem dX8_goesOn_18 : decode cX8_goesOn 18 = .ok (.if_icmp .ge 99, 3) := by decide +kernel
theorem dX8_goesOn_21 : decode cX8_goesOn 21 = .ok (.aload_n 0, 1) := by decide +kernel
theorem dX8_goesOn_22 : decode cX8_goesOn 22 = .ok (.iload_n 1, 1) := by decide +kernel
theorem dX8_goesOn_23 : decode cX8_goesOn 23 = .ok (.invokevirtual 156, 3) := by decide +kernel
theorem dX8_goesOn_26 : decode cX8_goesOn 26 = .ok (.ifCond .eq 85, 3) := by decide +kernel
theorem dX8_goesOn_29 : decode cX8_goesOn 29 = .ok (.aload_n 0, 1) := by decide +kernel
theorem dX8_goesOn_30 : decode cX8_goesOn 30 = .ok (.iload_n 1, 1) := by decide +kernel
theorem dX8_goesOn_31 : decode cX8_goesOn 31 = .ok (.iload_n 1, 1) := by decide +kernel
theorem dX8_goesOn_32 : decode cX8_goesOn 32 = .ok (.iconst 1, 1) := by decide +kernel
theorem dX8_goesOn_33 : decode cX8_goesOn 33 = .ok (.iadd, 1) := by decide +kernel
theorem dX8_goesOn_34 : decode cX8_goesOn 34 = .ok (.invokevirtual 142, 3) := by decide +kernel
theorem dX8_goesOn_37 : decode cX8_goesOn 37 = .ok (.aload_n 0, 1) := by decide +kernel
theorem dX8_goesOn_38 : decode cX8_goesOn 38 = .ok (.aload_n 0, 1) := by decide +kernel
theorem dX8_goesOn_39 : decode cX8_goesOn 39 = .ok (.getfield 7, 3) := by decide +kernel
theorem dX8_goesOn_42 : decode cX8_goesOn 42 = .ok (.bipush 6, 2) := by decide +kernel
theorem dX8_goesOn_44 : decode cX8_goesOn 44 = .ok (.iload_n 1, 1) := by decide +kernel
theorem dX8_goesOn_45 : decode cX8_goesOn 45 = .ok (.iadd, 1) := by decide +kernel
theorem dX8_goesOn_46 : decode cX8_goesOn 46 = .ok (.iaload, 1) := by decide +kernel
theorem dX8_goesOn_47 : decode cX8_goesOn 47 = .ok (.iconst 3, 1) := by decide +kernel
theorem dX8_goesOn_48 : decode cX8_goesOn 48 = .ok (.aload_n 0, 1) := by decide +kernel
theorem dX8_goesOn_49 : decode cX8_goesOn 49 = .ok (.aload_n 0, 1) := by decide +kernel
theorem dX8_goesOn_50 : decode cX8_goesOn 50 = .ok (.getfield 7, 3) := by decide +kernel
theorem dX8_goesOn_53 : decode cX8_goesOn 53 = .ok (.bipush 6, 2) := by decide +kernel
theorem dX8_goesOn_55 : decode cX8_goesOn 55 = .ok (.iload_n 1, 1) := by decide +kernel
theorem dX8_goesOn_56 : decode cX8_goesOn 56 = .ok (.iadd, 1) := by decide +kernel
theorem dX8_goesOn_57 : decode cX8_goesOn 57 = .ok (.iaload, 1) := by decide +kernel
theorem dX8_goesOn_58 : decode cX8_goesOn 58 = .ok (.iconst 3, 1) := by decide +kernel
theorem dX8_goesOn_59 : decode cX8_goesOn 59 = .ok (.invokevirtual 99, 3) := by decide +kernel
theorem dX8_goesOn_62 : decode cX8_goesOn 62 = .ok (.iconst 1, 1) := by decide +kernel
theorem dX8_goesOn_63 : decode cX8_goesOn 63 = .ok (.iadd, 1) := by decide +kernel
theorem dX8_goesOn_64 : decode cX8_goesOn 64 = .ok (.invokevirtual 80, 3) := by decide +kernel
theorem dX8_goesOn_67 : decode cX8_goesOn 67 = .ok (.aload_n 0, 1) := by decide +kernel
theorem dX8_goesOn_68 : decode cX8_goesOn 68 = .ok (.aload_n 0, 1) := by decide +kernel
theorem dX8_goesOn_69 : decode cX8_goesOn 69 = .ok (.getfield 7, 3) := by decide +kernel
theorem dX8_goesOn_72 : decode cX8_goesOn 72 = .ok (.bipush 6, 2) := by decide +kernel
theorem dX8_goesOn_74 : decode cX8_goesOn 74 = .ok (.iload_n 1, 1) := by decide +kernel
theorem dX8_goesOn_75 : decode cX8_goesOn 75 = .ok (.iadd, 1) := by decide +kernel
theorem dX8_goesOn_76 : decode cX8_goesOn 76 = .ok (.iconst 1, 1) := by decide +kernel
theorem dX8_goesOn_77 : decode cX8_goesOn 77 = .ok (.iadd, 1) := by decide +kernel
theorem dX8_goesOn_78 : decode cX8_goesOn 78 = .ok (.iaload, 1) := by decide +kernel
theorem dX8_goesOn_79 : decode cX8_goesOn 79 = .ok (.iconst 3, 1) := by decide +kernel
theorem dX8_goesOn_80 : decode cX8_goesOn 80 = .ok (.aload_n 0, 1) := by decide +kernel
theorem dX8_goesOn_81 : decode cX8_goesOn 81 = .ok (.aload_n 0, 1) := by decide +kernel
theorem dX8_goesOn_82 : decode cX8_goesOn 82 = .ok (.getfield 7, 3) := by decide +kernel
theorem dX8_goesOn_85 : decode cX8_goesOn 85 = .ok (.bipush 6, 2) := by decide +kernel
theorem dX8_goesOn_87 : decode cX8_goesOn 87 = .ok (.iload_n 1, 1) := by decide +kernel
theorem dX8_goesOn_88 : decode cX8_goesOn 88 = .ok (.iadd, 1) := by decide +kernel
theorem dX8_goesOn_89 : decode cX8_goesOn 89 = .ok (.iconst 1, 1) := by decide +kernel
theorem dX8_goesOn_90 : decode cX8_goesOn 90 = .ok (.iadd, 1) := by decide +kernel
theorem dX8_goesOn_91 : decode cX8_goesOn 91 = .ok (.iaload, 1) := by decide +kernel
theorem dX8_goesOn_92 : decode cX8_goesOn 92 = .ok (.iconst 3, 1) := by decide +kernel
theorem dX8_goesOn_93 : decode cX8_goesOn 93 = .ok (.invokevirtual 99, 3) := by decide +kernel
theorem dX8_goesOn_96 : decode cX8_goesOn 96 = .ok (.iconst 1, 1) := by decide +kernel
theorem dX8_goesOn_97 : decode cX8_goesOn 97 = .ok (.iadd, 1) := by decide +kernel
theorem dX8_goesOn_98 : decode cX8_goesOn 98 = .ok (.invokevirtual 80, 3) := by decide +kernel
theorem dX8_goesOn_101 : decode cX8_goesOn 101 = .ok (.aload_n 0, 1) := by decide +kernel
theorem dX8_goesOn_102 : decode cX8_goesOn 102 = .ok (.getfield 7, 3) := by decide +kernel
theorem dX8_goesOn_105 : decode cX8_goesOn 105 = .ok (.iconst 3, 1) := by decide +kernel
theorem dX8_goesOn_106 : decode cX8_goesOn 106 = .ok (.dup2, 1) := by decide +kernel
theorem dX8_goesOn_107 : decode cX8_goesOn 107 = .ok (.iaload, 1) := by decide +kernel
theorem dX8_goesOn_108 : decode cX8_goesOn 108 = .ok (.iconst 1, 1) := by decide +kernel
theorem dX8_goesOn_109 : decode cX8_goesOn 109 = .ok (.iadd, 1) := by decide +kernel
theorem dX8_goesOn_110 : decode cX8_goesOn 110 = .ok (.iastore, 1) := by decide +kernel
theorem dX8_goesOn_111 : decode cX8_goesOn 111 = .ok (.iinc 1 2, 3) := by decide +kernel
theorem dX8_goesOn_114 : decode cX8_goesOn 114 = .ok (.goto (-105), 3) := by decide +kernel
theorem dX8_goesOn_117 : decode cX8_goesOn 117 = .ok (.aload_n 0, 1) := by decide +kernel
theorem dX8_goesOn_118 : decode cX8_goesOn 118 = .ok (.getfield 7, 3) := by decide +kernel
theorem dX8_goesOn_121 : decode cX8_goesOn 121 = .ok (.iconst 0, 1) := by decide +kernel
theorem dX8_goesOn_122 : decode cX8_goesOn 122 = .ok (.iaload, 1) := by decide +kernel
theorem dX8_goesOn_123 : decode cX8_goesOn 123 = .ok (.ifCond .le 35, 3) := by decide +kernel
theorem dX8_goesOn_126 : decode cX8_goesOn 126 = .ok (.aload_n 0, 1) := by decide +kernel
theorem dX8_goesOn_127 : decode cX8_goesOn 127 = .ok (.invokevirtual 152, 3) := by decide +kernel
theorem dX8_goesOn_130 : decode cX8_goesOn 130 = .ok (.bipush 100, 2) := by decide +kernel
theorem dX8_goesOn_132 : decode cX8_goesOn 132 = .ok (.irem, 1) := by decide +kernel
theorem dX8_goesOn_133 : decode cX8_goesOn 133 = .ok (.aload_n 0, 1) := by decide +kernel
theorem dX8_goesOn_134 : decode cX8_goesOn 134 = .ok (.getfield 7, 3) := by decide +kernel
theorem dX8_goesOn_137 : decode cX8_goesOn 137 = .ok (.iconst 4, 1) := by decide +kernel
theorem dX8_goesOn_138 : decode cX8_goesOn 138 = .ok (.iaload, 1) := by decide +kernel
theorem dX8_goesOn_139 : decode cX8_goesOn 139 = .ok (.if_icmp .ge 19, 3) := by decide +kernel
theorem dX8_goesOn_142 : decode cX8_goesOn 142 = .ok (.aload_n 0, 1) := by decide +kernel
theorem dX8_goesOn_143 : decode cX8_goesOn 143 = .ok (.aload_n 0, 1) := by decide +kernel
theorem dX8_goesOn_144 : decode cX8_goesOn 144 = .ok (.invokevirtual 152, 3) := by decide +kernel
theorem dX8_goesOn_147 : decode cX8_goesOn 147 = .ok (.aload_n 0, 1) := by decide +kernel
theorem dX8_goesOn_148 : decode cX8_goesOn 148 = .ok (.getfield 7, 3) := by decide +kernel
theorem dX8_goesOn_151 : decode cX8_goesOn 151 = .ok (.iconst 0, 1) := by decide +kernel
theorem dX8_goesOn_152 : decode cX8_goesOn 152 = .ok (.iaload, 1) := by decide +kernel
theorem dX8_goesOn_153 : decode cX8_goesOn 153 = .ok (.irem, 1) := by decide +kernel
theorem dX8_goesOn_154 : decode cX8_goesOn 154 = .ok (.iconst 0, 1) := by decide +kernel
theorem dX8_goesOn_155 : decode cX8_goesOn 155 = .ok (.invokevirtual 138, 3) := by decide +kernel
theorem dX8_goesOn_158 : decode cX8_goesOn 158 = .ok (.aload_n 0, 1) := by decide +kernel
theorem dX8_goesOn_159 : decode cX8_goesOn 159 = .ok (.getfield 7, 3) := by decide +kernel
theorem dX8_goesOn_162 : decode cX8_goesOn 162 = .ok (.iconst 2, 1) := by decide +kernel
theorem dX8_goesOn_163 : decode cX8_goesOn 163 = .ok (.dup2, 1) := by decide +kernel
theorem dX8_goesOn_164 : decode cX8_goesOn 164 = .ok (.iaload, 1) := by decide +kernel
theorem dX8_goesOn_165 : decode cX8_goesOn 165 = .ok (.iconst 1, 1) := by decide +kernel
theorem dX8_goesOn_166 : decode cX8_goesOn 166 = .ok (.iadd, 1) := by decide +kernel
theorem dX8_goesOn_167 : decode cX8_goesOn 167 = .ok (.iastore, 1) := by decide +kernel
theorem dX8_goesOn_168 : decode cX8_goesOn 168 = .ok (.return_, 1) := by decide +kernel
theorem dX8_goesOnMany_0 : decode cX8_goesOnMany 0 = .ok (.iconst 0, 1) := by decide +kernel
theorem dX8_goesOnMany_1 : decode cX8_goesOnMany 1 = .ok (.istore_n 2, 1) := by decide +kernel
theorem dX8_goesOnMany_2 : decode cX8_goesOnMany 2 = .ok (.iload_n 2, 1) := by decide +kernel
theorem dX8_goesOnMany_3 : decode cX8_goesOnMany 3 = .ok (.iload_n 1, 1) := by decide +kernel
theorem dX8_goesOnMany_4 : decode cX8_goesOnMany 4 = .ok (.if_icmp .ge 13, 3) := by decide +kernel
theorem dX8_goesOnMany_7 : decode cX8_goesOnMany 7 = .ok (.aload_n 0, 1) := by decide +kernel
theorem dX8_goesOnMany_8 : decode cX8_goesOnMany 8 = .ok (.invokevirtual 159, 3) := by decide +kernel
theorem dX8_goesOnMany_11 : decode cX8_goesOnMany 11 = .ok (.iinc 2 1, 3) := by decide +kernel
theorem dX8_goesOnMany_14 : decode cX8_goesOnMany 14 = .ok (.goto (-12), 3) := by decide +kernel
theorem dX8_goesOnMany_17 : decode cX8_goesOnMany 17 = .ok (.return_, 1) := by decide +kernel
theorem dX8_jolts_0 : decode cX8_jolts 0 = .ok (.iload_n 1, 1) := by decide +kernel
theorem dX8_jolts_1 : decode cX8_jolts 1 = .ok (.i2l, 1) := by decide +kernel
theorem dX8_jolts_2 : decode cX8_jolts 2 = .ok (.lconst 1, 1) := by decide +kernel
theorem dX8_jolts_3 : decode cX8_jolts 3 = .ok (.ldc2_w 148, 3) := by decide +kernel
theorem dX8_jolts_6 : decode cX8_jolts 6 = .ok (.invokestatic 75, 3) := by decide +kernel
theorem dX8_jolts_9 : decode cX8_jolts 9 = .ok (.ifCond .ne 6, 3) := by decide +kernel
theorem dX8_jolts_12 : decode cX8_jolts 12 = .ok (.ldc 90, 2) := by decide +kernel
theorem dX8_jolts_14 : decode cX8_jolts 14 = .ok (.ireturn, 1) := by decide +kernel
theorem dX8_jolts_15 : decode cX8_jolts 15 = .ok (.aload_n 0, 1) := by decide +kernel
theorem dX8_jolts_16 : decode cX8_jolts 16 = .ok (.getfield 7, 3) := by decide +kernel
theorem dX8_jolts_19 : decode cX8_jolts 19 = .ok (.iconst 3, 1) := by decide +kernel
theorem dX8_jolts_20 : decode cX8_jolts 20 = .ok (.iaload, 1) := by decide +kernel
theorem dX8_jolts_21 : decode cX8_jolts 21 = .ok (.istore_n 2, 1) := by decide +kernel
theorem dX8_jolts_22 : decode cX8_jolts 22 = .ok (.iconst 0, 1) := by decide +kernel
theorem dX8_jolts_23 : decode cX8_jolts 23 = .ok (.istore_n 3, 1) := by decide +kernel
theorem dX8_jolts_24 : decode cX8_jolts 24 = .ok (.iload_n 3, 1) := by decide +kernel
theorem dX8_jolts_25 : decode cX8_jolts 25 = .ok (.iload_n 1, 1) := by decide +kernel
theorem dX8_jolts_26 : decode cX8_jolts 26 = .ok (.if_icmp .ge 25, 3) := by decide +kernel
theorem dX8_jolts_29 : decode cX8_jolts 29 = .ok (.aload_n 0, 1) := by decide +kernel
theorem dX8_jolts_30 : decode cX8_jolts 30 = .ok (.getfield 7, 3) := by decide +kernel
theorem dX8_jolts_33 : decode cX8_jolts 33 = .ok (.iconst 2, 1) := by decide +kernel
theorem dX8_jolts_34 : decode cX8_jolts 34 = .ok (.iaload, 1) := by decide +kernel
theorem dX8_jolts_35 : decode cX8_jolts 35 = .ok (.sipush 9999, 3) := by decide +kernel
theorem dX8_jolts_38 : decode cX8_jolts 38 = .ok (.if_icmp .ge 13, 3) := by decide +kernel
theorem dX8_jolts_41 : decode cX8_jolts 41 = .ok (.aload_n 0, 1) := by decide +kernel
theorem dX8_jolts_42 : decode cX8_jolts 42 = .ok (.invokevirtual 159, 3) := by decide +kernel
theorem dX8_jolts_45 : decode cX8_jolts 45 = .ok (.iinc 3 1, 3) := by decide +kernel
theorem dX8_jolts_48 : decode cX8_jolts 48 = .ok (.goto (-24), 3) := by decide +kernel
theorem dX8_jolts_51 : decode cX8_jolts 51 = .ok (.aload_n 0, 1) := by decide +kernel
theorem dX8_jolts_52 : decode cX8_jolts 52 = .ok (.getfield 7, 3) := by decide +kernel
theorem dX8_jolts_55 : decode cX8_jolts 55 = .ok (.iconst 3, 1) := by decide +kernel
theorem dX8_jolts_56 : decode cX8_jolts 56 = .ok (.iaload, 1) := by decide +kernel
theorem dX8_jolts_57 : decode cX8_jolts 57 = .ok (.iload_n 2, 1) := by decide +kernel
theorem dX8_jolts_58 : decode cX8_jolts 58 = .ok (.isub, 1) := by decide +kernel
theorem dX8_jolts_59 : decode cX8_jolts 59 = .ok (.ireturn, 1) := by decide +kernel
theorem dX8_mess_0 : decode cX8_mess 0 = .ok (.iconst 0, 1) := by decide +kernel
theorem dX8_mess_1 : decode cX8_mess 1 = .ok (.istore_n 1, 1) := by decide +kernel
theorem dX8_mess_2 : decode cX8_mess 2 = .ok (.iconst 0, 1) := by decide +kernel
theorem dX8_mess_3 : decode cX8_mess 3 = .ok (.istore_n 2, 1) := by decide +kernel
theorem dX8_mess_4 : decode cX8_mess 4 = .ok (.iload_n 2, 1) := by decide +kernel
theorem dX8_mess_5 : decode cX8_mess 5 = .ok (.aload_n 0, 1) := by decide +kernel
theorem dX8_mess_6 : decode cX8_mess 6 = .ok (.getfield 7, 3) := by decide +kernel
theorem dX8_mess_9 : decode cX8_mess 9 = .ok (.iconst 0, 1) := by decide +kernel
theorem dX8_mess_10 : decode cX8_mess 10 = .ok (.iaload, 1) := by decide +kernel
theorem dX8_mess_11 : decode cX8_mess 11 = .ok (.if_icmp .ge 66, 3) := by decide +kernel
theorem dX8_mess_14 : decode cX8_mess 14 = .ok (.iload_n 2, 1) := by decide +kernel
theorem dX8_mess_15 : decode cX8_mess 15 = .ok (.iconst 1, 1) := by decide +kernel
theorem dX8_mess_16 : decode cX8_mess 16 = .ok (.iadd, 1) := by decide +kernel
theorem dX8_mess_17 : decode cX8_mess 17 = .ok (.istore_n 3, 1) := by decide +kernel
theorem dX8_mess_18 : decode cX8_mess 18 = .ok (.iload_n 3, 1) := by decide +kernel
theorem dX8_mess_19 : decode cX8_mess 19 = .ok (.aload_n 0, 1) := by decide +kernel
theorem dX8_mess_20 : decode cX8_mess 20 = .ok (.getfield 7, 3) := by decide +kernel
theorem dX8_mess_23 : decode cX8_mess 23 = .ok (.iconst 0, 1) := by decide +kernel
theorem dX8_mess_24 : decode cX8_mess 24 = .ok (.iaload, 1) := by decide +kernel
theorem dX8_mess_25 : decode cX8_mess 25 = .ok (.if_icmp .ge 46, 3) := by decide +kernel
theorem dX8_mess_28 : decode cX8_mess 28 = .ok (.iload_n 1, 1) := by decide +kernel
theorem dX8_mess_29 : decode cX8_mess 29 = .ok (.aload_n 0, 1) := by decide +kernel
theorem dX8_mess_30 : decode cX8_mess 30 = .ok (.aload_n 0, 1) := by decide +kernel
theorem dX8_mess_31 : decode cX8_mess 31 = .ok (.getfield 7, 3) := by decide +kernel
theorem dX8_mess_34 : decode cX8_mess 34 = .ok (.bipush 6, 2) := by decide +kernel
theorem dX8_mess_36 : decode cX8_mess 36 = .ok (.iload_n 3, 1) := by decide +kernel
theorem dX8_mess_37 : decode cX8_mess 37 = .ok (.iadd, 1) := by decide +kernel
theorem dX8_mess_38 : decode cX8_mess 38 = .ok (.iaload, 1) := by decide +kernel
theorem dX8_mess_39 : decode cX8_mess 39 = .ok (.invokevirtual 119, 3) := by decide +kernel
theorem dX8_mess_42 : decode cX8_mess 42 = .ok (.aload_n 0, 1) := by decide +kernel
theorem dX8_mess_43 : decode cX8_mess 43 = .ok (.aload_n 0, 1) := by decide +kernel
theorem dX8_mess_44 : decode cX8_mess 44 = .ok (.getfield 7, 3) := by decide +kernel
theorem dX8_mess_47 : decode cX8_mess 47 = .ok (.bipush 6, 2) := by decide +kernel
theorem dX8_mess_49 : decode cX8_mess 49 = .ok (.iload_n 2, 1) := by decide +kernel
theorem dX8_mess_50 : decode cX8_mess 50 = .ok (.iadd, 1) := by decide +kernel
theorem dX8_mess_51 : decode cX8_mess 51 = .ok (.iaload, 1) := by decide +kernel
theorem dX8_mess_52 : decode cX8_mess 52 = .ok (.invokevirtual 119, 3) := by decide +kernel
theorem dX8_mess_55 : decode cX8_mess 55 = .ok (.if_icmp .le 7, 3) := by decide +kernel
theorem dX8_mess_58 : decode cX8_mess 58 = .ok (.iconst 1, 1) := by decide +kernel
theorem dX8_mess_59 : decode cX8_mess 59 = .ok (.goto 4, 3) := by decide +kernel
theorem dX8_mess_62 : decode cX8_mess 62 = .ok (.iconst 0, 1) := by decide +kernel
theorem dX8_mess_63 : decode cX8_mess 63 = .ok (.iadd, 1) := by decide +kernel
theorem dX8_mess_64 : decode cX8_mess 64 = .ok (.istore_n 1, 1) := by decide +kernel
theorem dX8_mess_65 : decode cX8_mess 65 = .ok (.iinc 3 1, 3) := by decide +kernel
theorem dX8_mess_68 : decode cX8_mess 68 = .ok (.goto (-50), 3) := by decide +kernel
theorem dX8_mess_71 : decode cX8_mess 71 = .ok (.iinc 2 1, 3) := by decide +kernel
theorem dX8_mess_74 : decode cX8_mess 74 = .ok (.goto (-70), 3) := by decide +kernel
theorem dX8_mess_77 : decode cX8_mess 77 = .ok (.iload_n 1, 1) := by decide +kernel
theorem dX8_mess_78 : decode cX8_mess 78 = .ok (.ireturn, 1) := by decide +kernel
theorem dX8_townAt_0 : decode cX8_townAt 0 = .ok (.aload_n 0, 1) := by decide +kernel
theorem dX8_townAt_1 : decode cX8_townAt 1 = .ok (.aload_n 0, 1) := by decide +kernel
theorem dX8_townAt_2 : decode cX8_townAt 2 = .ok (.getfield 7, 3) := by decide +kernel
theorem dX8_townAt_5 : decode cX8_townAt 5 = .ok (.bipush 6, 2) := by decide +kernel
theorem dX8_townAt_7 : decode cX8_townAt 7 = .ok (.iload_n 1, 1) := by decide +kernel
theorem dX8_townAt_8 : decode cX8_townAt 8 = .ok (.iadd, 1) := by decide +kernel
theorem dX8_townAt_9 : decode cX8_townAt 9 = .ok (.iaload, 1) := by decide +kernel
theorem dX8_townAt_10 : decode cX8_townAt 10 = .ok (.iconst 2, 1) := by decide +kernel
theorem dX8_townAt_11 : decode cX8_townAt 11 = .ok (.invokevirtual 99, 3) := by decide +kernel
theorem dX8_townAt_14 : decode cX8_townAt 14 = .ok (.ireturn, 1) := by decide +kernel
theorem dX8_layers_0 : decode cX8_layers 0 = .ok (.iconst 0, 1) := by decide +kernel
theorem dX8_layers_1 : decode cX8_layers 1 = .ok (.istore_n 1, 1) := by decide +kernel
theorem dX8_layers_2 : decode cX8_layers 2 = .ok (.iconst 0, 1) := by decide +kernel
theorem dX8_layers_3 : decode cX8_layers 3 = .ok (.istore_n 2, 1) := by decide +kernel
theorem dX8_layers_4 : decode cX8_layers 4 = .ok (.iload_n 2, 1) := by decide +kernel
theorem dX8_layers_5 : decode cX8_layers 5 = .ok (.aload_n 0, 1) := by decide +kernel
theorem dX8_layers_6 : decode cX8_layers 6 = .ok (.getfield 7, 3) := by decide +kernel
theorem dX8_layers_9 : decode cX8_layers 9 = .ok (.iconst 0, 1) := by decide +kernel
theorem dX8_layers_10 : decode cX8_layers 10 = .ok (.iaload, 1) := by decide +kernel
theorem dX8_layers_11 : decode cX8_layers 11 = .ok (.if_icmp .ge 36, 3) := by decide +kernel
theorem dX8_layers_14 : decode cX8_layers 14 = .ok (.iload_n 1, 1) := by decide +kernel
theorem dX8_layers_15 : decode cX8_layers 15 = .ok (.iload_n 2, 1) := by decide +kernel
theorem dX8_layers_16 : decode cX8_layers 16 = .ok (.ifCond .eq 18, 3) := by decide +kernel
theorem dX8_layers_19 : decode cX8_layers 19 = .ok (.aload_n 0, 1) := by decide +kernel
theorem dX8_layers_20 : decode cX8_layers 20 = .ok (.iload_n 2, 1) := by decide +kernel
theorem dX8_layers_21 : decode cX8_layers 21 = .ok (.invokevirtual 162, 3) := by decide +kernel
theorem dX8_layers_24 : decode cX8_layers 24 = .ok (.aload_n 0, 1) := by decide +kernel
theorem dX8_layers_25 : decode cX8_layers 25 = .ok (.iload_n 2, 1) := by decide +kernel
theorem dX8_layers_26 : decode cX8_layers 26 = .ok (.iconst 1, 1) := by decide +kernel
theorem dX8_layers_27 : decode cX8_layers 27 = .ok (.isub, 1) := by decide +kernel
theorem dX8_layers_28 : decode cX8_layers 28 = .ok (.invokevirtual 162, 3) := by decide +kernel
theorem dX8_layers_31 : decode cX8_layers 31 = .ok (.if_icmp .eq 7, 3) := by decide +kernel
theorem dX8_layers_34 : decode cX8_layers 34 = .ok (.iconst 1, 1) := by decide +kernel
theorem dX8_layers_35 : decode cX8_layers 35 = .ok (.goto 4, 3) := by decide +kernel
theorem dX8_layers_38 : decode cX8_layers 38 = .ok (.iconst 0, 1) := by decide +kernel
theorem dX8_layers_39 : decode cX8_layers 39 = .ok (.iadd, 1) := by decide +kernel
theorem dX8_layers_40 : decode cX8_layers 40 = .ok (.istore_n 1, 1) := by decide +kernel
theorem dX8_layers_41 : decode cX8_layers 41 = .ok (.iinc 2 1, 3) := by decide +kernel
theorem dX8_layers_44 : decode cX8_layers 44 = .ok (.goto (-40), 3) := by decide +kernel
theorem dX8_layers_47 : decode cX8_layers 47 = .ok (.iload_n 1, 1) := by decide +kernel
theorem dX8_layers_48 : decode cX8_layers 48 = .ok (.ireturn, 1) := by decide +kernel
theorem dX8_climbing_0 : decode cX8_climbing 0 = .ok (.iconst 0, 1) := by decide +kernel
theorem dX8_climbing_1 : decode cX8_climbing 1 = .ok (.istore_n 1, 1) := by decide +kernel
theorem dX8_climbing_2 : decode cX8_climbing 2 = .ok (.iconst 0, 1) := by decide +kernel
theorem dX8_climbing_3 : decode cX8_climbing 3 = .ok (.istore_n 2, 1) := by decide +kernel
theorem dX8_climbing_4 : decode cX8_climbing 4 = .ok (.iload_n 2, 1) := by decide +kernel
theorem dX8_climbing_5 : decode cX8_climbing 5 = .ok (.iconst 1, 1) := by decide +kernel
theorem dX8_climbing_6 : decode cX8_climbing 6 = .ok (.iadd, 1) := by decide +kernel
theorem dX8_climbing_7 : decode cX8_climbing 7 = .ok (.aload_n 0, 1) := by decide +kernel
theorem dX8_climbing_8 : decode cX8_climbing 8 = .ok (.getfield 7, 3) := by decide +kernel
theorem dX8_climbing_11 : decode cX8_climbing 11 = .ok (.iconst 0, 1) := by decide +kernel
theorem dX8_climbing_12 : decode cX8_climbing 12 = .ok (.iaload, 1) := by decide +kernel
theorem dX8_climbing_13 : decode cX8_climbing 13 = .ok (.if_icmp .ge 25, 3) := by decide +kernel
theorem dX8_climbing_16 : decode cX8_climbing 16 = .ok (.iload_n 1, 1) := by decide +kernel
theorem dX8_climbing_17 : decode cX8_climbing 17 = .ok (.aload_n 0, 1) := by decide +kernel
theorem dX8_climbing_18 : decode cX8_climbing 18 = .ok (.iload_n 2, 1) := by decide +kernel
theorem dX8_climbing_19 : decode cX8_climbing 19 = .ok (.invokevirtual 156, 3) := by decide +kernel
theorem dX8_climbing_22 : decode cX8_climbing 22 = .ok (.ifCond .eq 7, 3) := by decide +kernel
theorem dX8_climbing_25 : decode cX8_climbing 25 = .ok (.iconst 1, 1) := by decide +kernel
theorem dX8_climbing_26 : decode cX8_climbing 26 = .ok (.goto 4, 3) := by decide +kernel
theorem dX8_climbing_29 : decode cX8_climbing 29 = .ok (.iconst 0, 1) := by decide +kernel
theorem dX8_climbing_30 : decode cX8_climbing 30 = .ok (.iadd, 1) := by decide +kernel
theorem dX8_climbing_31 : decode cX8_climbing 31 = .ok (.istore_n 1, 1) := by decide +kernel
theorem dX8_climbing_32 : decode cX8_climbing 32 = .ok (.iinc 2 1, 3) := by decide +kernel
theorem dX8_climbing_35 : decode cX8_climbing 35 = .ok (.goto (-31), 3) := by decide +kernel
theorem dX8_climbing_38 : decode cX8_climbing 38 = .ok (.iload_n 1, 1) := by decide +kernel
theorem dX8_climbing_39 : decode cX8_climbing 39 = .ok (.ireturn, 1) := by decide +kernel
theorem dX8_thickOfAll_0 : decode cX8_thickOfAll 0 = .ok (.iconst 0, 1) := by decide +kernel
theorem dX8_thickOfAll_1 : decode cX8_thickOfAll 1 = .ok (.istore_n 1, 1) := by decide +kernel
theorem dX8_thickOfAll_2 : decode cX8_thickOfAll 2 = .ok (.iconst 0, 1) := by decide +kernel
theorem dX8_thickOfAll_3 : decode cX8_thickOfAll 3 = .ok (.istore_n 2, 1) := by decide +kernel
theorem dX8_thickOfAll_4 : decode cX8_thickOfAll 4 = .ok (.iload_n 2, 1) := by decide +kernel
theorem dX8_thickOfAll_5 : decode cX8_thickOfAll 5 = .ok (.aload_n 0, 1) := by decide +kernel
theorem dX8_thickOfAll_6 : decode cX8_thickOfAll 6 = .ok (.getfield 7, 3) := by decide +kernel
theorem dX8_thickOfAll_9 : decode cX8_thickOfAll 9 = .ok (.iconst 0, 1) := by decide +kernel
theorem dX8_thickOfAll_10 : decode cX8_thickOfAll 10 = .ok (.iaload, 1) := by decide +kernel
theorem dX8_thickOfAll_11 : decode cX8_thickOfAll 11 = .ok (.if_icmp .ge 18, 3) := by decide +kernel
theorem dX8_thickOfAll_14 : decode cX8_thickOfAll 14 = .ok (.iload_n 1, 1) := by decide +kernel
theorem dX8_thickOfAll_15 : decode cX8_thickOfAll 15 = .ok (.aload_n 0, 1) := by decide +kernel
theorem dX8_thickOfAll_16 : decode cX8_thickOfAll 16 = .ok (.iload_n 2, 1) := by decide +kernel
theorem dX8_thickOfAll_17 : decode cX8_thickOfAll 17 = .ok (.iconst 1, 1) := by decide +kernel
theorem dX8_thickOfAll_18 : decode cX8_thickOfAll 18 = .ok (.invokevirtual 99, 3) := by decide +kernel
theorem dX8_thickOfAll_21 : decode cX8_thickOfAll 21 = .ok (.iadd, 1) := by decide +kernel
theorem dX8_thickOfAll_22 : decode cX8_thickOfAll 22 = .ok (.istore_n 1, 1) := by decide +kernel
theorem dX8_thickOfAll_23 : decode cX8_thickOfAll 23 = .ok (.iinc 2 1, 3) := by decide +kernel
theorem dX8_thickOfAll_26 : decode cX8_thickOfAll 26 = .ok (.goto (-22), 3) := by decide +kernel
theorem dX8_thickOfAll_29 : decode cX8_thickOfAll 29 = .ok (.iload_n 1, 1) := by decide +kernel
theorem dX8_thickOfAll_30 : decode cX8_thickOfAll 30 = .ok (.ireturn, 1) := by decide +kernel
theorem dX8_bag_0 : decode cX8_bag 0 = .ok (.iload_n 1, 1) := by decide +kernel
theorem dX8_bag_1 : decode cX8_bag 1 = .ok (.tableswitch 62 0 4 #[35, 40, 45, 52, 57], 35) := by decide +kernel
theorem dX8_bag_36 : decode cX8_bag 36 = .ok (.aload_n 0, 1) := by decide +kernel
theorem dX8_bag_37 : decode cX8_bag 37 = .ok (.invokevirtual 165, 3) := by decide +kernel
theorem dX8_bag_40 : decode cX8_bag 40 = .ok (.ireturn, 1) := by decide +kernel
theorem dX8_bag_41 : decode cX8_bag 41 = .ok (.aload_n 0, 1) := by decide +kernel
theorem dX8_bag_42 : decode cX8_bag 42 = .ok (.invokevirtual 168, 3) := by decide +kernel
theorem dX8_bag_45 : decode cX8_bag 45 = .ok (.ireturn, 1) := by decide +kernel
theorem dX8_bag_46 : decode cX8_bag 46 = .ok (.aload_n 0, 1) := by decide +kernel
theorem dX8_bag_47 : decode cX8_bag 47 = .ok (.getfield 7, 3) := by decide +kernel
theorem dX8_bag_50 : decode cX8_bag 50 = .ok (.iconst 3, 1) := by decide +kernel
theorem dX8_bag_51 : decode cX8_bag 51 = .ok (.iaload, 1) := by decide +kernel
theorem dX8_bag_52 : decode cX8_bag 52 = .ok (.ireturn, 1) := by decide +kernel
theorem dX8_bag_53 : decode cX8_bag 53 = .ok (.aload_n 0, 1) := by decide +kernel
theorem dX8_bag_54 : decode cX8_bag 54 = .ok (.invokevirtual 171, 3) := by decide +kernel
theorem dX8_bag_57 : decode cX8_bag 57 = .ok (.ireturn, 1) := by decide +kernel
theorem dX8_bag_58 : decode cX8_bag 58 = .ok (.aload_n 0, 1) := by decide +kernel
theorem dX8_bag_59 : decode cX8_bag 59 = .ok (.invokevirtual 174, 3) := by decide +kernel
theorem dX8_bag_62 : decode cX8_bag 62 = .ok (.ireturn, 1) := by decide +kernel
theorem dX8_bag_63 : decode cX8_bag 63 = .ok (.ldc 90, 2) := by decide +kernel
theorem dX8_bag_65 : decode cX8_bag 65 = .ok (.ireturn, 1) := by decide +kernel
theorem dX8_thickOnTop_0 : decode cX8_thickOnTop 0 = .ok (.aload_n 0, 1) := by decide +kernel
theorem dX8_thickOnTop_1 : decode cX8_thickOnTop 1 = .ok (.getfield 7, 3) := by decide +kernel
theorem dX8_thickOnTop_4 : decode cX8_thickOnTop 4 = .ok (.iconst 0, 1) := by decide +kernel
theorem dX8_thickOnTop_5 : decode cX8_thickOnTop 5 = .ok (.iaload, 1) := by decide +kernel
theorem dX8_thickOnTop_6 : decode cX8_thickOnTop 6 = .ok (.ifCond .ne 7, 3) := by decide +kernel
theorem dX8_thickOnTop_9 : decode cX8_thickOnTop 9 = .ok (.iconst 0, 1) := by decide +kernel
theorem dX8_thickOnTop_10 : decode cX8_thickOnTop 10 = .ok (.goto 15, 3) := by decide +kernel
theorem dX8_thickOnTop_13 : decode cX8_thickOnTop 13 = .ok (.aload_n 0, 1) := by decide +kernel
theorem dX8_thickOnTop_14 : decode cX8_thickOnTop 14 = .ok (.aload_n 0, 1) := by decide +kernel
theorem dX8_thickOnTop_15 : decode cX8_thickOnTop 15 = .ok (.getfield 7, 3) := by decide +kernel
theorem dX8_thickOnTop_18 : decode cX8_thickOnTop 18 = .ok (.bipush 6, 2) := by decide +kernel
theorem dX8_thickOnTop_20 : decode cX8_thickOnTop 20 = .ok (.iaload, 1) := by decide +kernel
theorem dX8_thickOnTop_21 : decode cX8_thickOnTop 21 = .ok (.iconst 1, 1) := by decide +kernel
theorem dX8_thickOnTop_22 : decode cX8_thickOnTop 22 = .ok (.invokevirtual 99, 3) := by decide +kernel
theorem dX8_thickOnTop_25 : decode cX8_thickOnTop 25 = .ok (.ireturn, 1) := by decide +kernel
theorem dX8_manyTowns_0 : decode cX8_manyTowns 0 = .ok (.iconst 0, 1) := by decide +kernel
theorem dX8_manyTowns_1 : decode cX8_manyTowns 1 = .ok (.istore_n 1, 1) := by decide +kernel
theorem dX8_manyTowns_2 : decode cX8_manyTowns 2 = .ok (.iconst 0, 1) := by decide +kernel
theorem dX8_manyTowns_3 : decode cX8_manyTowns 3 = .ok (.istore_n 2, 1) := by decide +kernel
theorem dX8_manyTowns_4 : decode cX8_manyTowns 4 = .ok (.iconst 0, 1) := by decide +kernel
theorem dX8_manyTowns_5 : decode cX8_manyTowns 5 = .ok (.istore_n 3, 1) := by decide +kernel
theorem dX8_manyTowns_6 : decode cX8_manyTowns 6 = .ok (.iload_n 3, 1) := by decide +kernel
theorem dX8_manyTowns_7 : decode cX8_manyTowns 7 = .ok (.aload_n 0, 1) := by decide +kernel
theorem dX8_manyTowns_8 : decode cX8_manyTowns 8 = .ok (.getfield 7, 3) := by decide +kernel
theorem dX8_manyTowns_11 : decode cX8_manyTowns 11 = .ok (.iconst 0, 1) := by decide +kernel
theorem dX8_manyTowns_12 : decode cX8_manyTowns 12 = .ok (.iaload, 1) := by decide +kernel
theorem dX8_manyTowns_13 : decode cX8_manyTowns 13 = .ok (.if_icmp .ge 41, 3) := by decide +kernel
theorem dX8_manyTowns_16 : decode cX8_manyTowns 16 = .ok (.iload_n 2, 1) := by decide +kernel
theorem dX8_manyTowns_17 : decode cX8_manyTowns 17 = .ok (.iload_n 1, 1) := by decide +kernel
theorem dX8_manyTowns_18 : decode cX8_manyTowns 18 = .ok (.aload_n 0, 1) := by decide +kernel
theorem dX8_manyTowns_19 : decode cX8_manyTowns 19 = .ok (.iload_n 3, 1) := by decide +kernel
theorem dX8_manyTowns_20 : decode cX8_manyTowns 20 = .ok (.iconst 2, 1) := by decide +kernel
theorem dX8_manyTowns_21 : decode cX8_manyTowns 21 = .ok (.invokevirtual 99, 3) := by decide +kernel
theorem dX8_manyTowns_24 : decode cX8_manyTowns 24 = .ok (.ishr, 1) := by decide +kernel
theorem dX8_manyTowns_25 : decode cX8_manyTowns 25 = .ok (.iconst 1, 1) := by decide +kernel
theorem dX8_manyTowns_26 : decode cX8_manyTowns 26 = .ok (.iand, 1) := by decide +kernel
theorem dX8_manyTowns_27 : decode cX8_manyTowns 27 = .ok (.ifCond .ne 7, 3) := by decide +kernel
theorem dX8_manyTowns_30 : decode cX8_manyTowns 30 = .ok (.iconst 1, 1) := by decide +kernel
theorem dX8_manyTowns_31 : decode cX8_manyTowns 31 = .ok (.goto 4, 3) := by decide +kernel
theorem dX8_manyTowns_34 : decode cX8_manyTowns 34 = .ok (.iconst 0, 1) := by decide +kernel
theorem dX8_manyTowns_35 : decode cX8_manyTowns 35 = .ok (.iadd, 1) := by decide +kernel
theorem dX8_manyTowns_36 : decode cX8_manyTowns 36 = .ok (.istore_n 2, 1) := by decide +kernel
theorem dX8_manyTowns_37 : decode cX8_manyTowns 37 = .ok (.iload_n 1, 1) := by decide +kernel
theorem dX8_manyTowns_38 : decode cX8_manyTowns 38 = .ok (.iconst 1, 1) := by decide +kernel
theorem dX8_manyTowns_39 : decode cX8_manyTowns 39 = .ok (.aload_n 0, 1) := by decide +kernel
theorem dX8_manyTowns_40 : decode cX8_manyTowns 40 = .ok (.iload_n 3, 1) := by decide +kernel
theorem dX8_manyTowns_41 : decode cX8_manyTowns 41 = .ok (.iconst 2, 1) := by decide +kernel
theorem dX8_manyTowns_42 : decode cX8_manyTowns 42 = .ok (.invokevirtual 99, 3) := by decide +kernel
theorem dX8_manyTowns_45 : decode cX8_manyTowns 45 = .ok (.ishl, 1) := by decide +kernel
theorem dX8_manyTowns_46 : decode cX8_manyTowns 46 = .ok (.ior, 1) := by decide +kernel
theorem dX8_manyTowns_47 : decode cX8_manyTowns 47 = .ok (.istore_n 1, 1) := by decide +kernel
theorem dX8_manyTowns_48 : decode cX8_manyTowns 48 = .ok (.iinc 3 1, 3) := by decide +kernel
theorem dX8_manyTowns_51 : decode cX8_manyTowns 51 = .ok (.goto (-45), 3) := by decide +kernel
theorem dX8_manyTowns_54 : decode cX8_manyTowns 54 = .ok (.iload_n 2, 1) := by decide +kernel
theorem dX8_manyTowns_55 : decode cX8_manyTowns 55 = .ok (.ireturn, 1) := by decide +kernel
theorem dX8_laysBy_0 : decode cX8_laysBy 0 = .ok (.iconst 0, 1) := by decide +kernel
theorem dX8_laysBy_1 : decode cX8_laysBy 1 = .ok (.istore_n 1, 1) := by decide +kernel
theorem dX8_laysBy_2 : decode cX8_laysBy 2 = .ok (.iload_n 1, 1) := by decide +kernel
theorem dX8_laysBy_3 : decode cX8_laysBy 3 = .ok (.bipush 76, 2) := by decide +kernel
theorem dX8_laysBy_5 : decode cX8_laysBy 5 = .ok (.if_icmp .ge 21, 3) := by decide +kernel
theorem dX8_laysBy_8 : decode cX8_laysBy 8 = .ok (.aload_n 0, 1) := by decide +kernel
theorem dX8_laysBy_9 : decode cX8_laysBy 9 = .ok (.getfield 53, 3) := by decide +kernel
theorem dX8_laysBy_12 : decode cX8_laysBy 12 = .ok (.iload_n 1, 1) := by decide +kernel
theorem dX8_laysBy_13 : decode cX8_laysBy 13 = .ok (.aload_n 0, 1) := by decide +kernel
theorem dX8_laysBy_14 : decode cX8_laysBy 14 = .ok (.getfield 7, 3) := by decide +kernel
theorem dX8_laysBy_17 : decode cX8_laysBy 17 = .ok (.iload_n 1, 1) := by decide +kernel
theorem dX8_laysBy_18 : decode cX8_laysBy 18 = .ok (.iaload, 1) := by decide +kernel
theorem dX8_laysBy_19 : decode cX8_laysBy 19 = .ok (.iastore, 1) := by decide +kernel
theorem dX8_laysBy_20 : decode cX8_laysBy 20 = .ok (.iinc 1 1, 3) := by decide +kernel
theorem dX8_laysBy_23 : decode cX8_laysBy 23 = .ok (.goto (-21), 3) := by decide +kernel
theorem dX8_laysBy_26 : decode cX8_laysBy 26 = .ok (.return_, 1) := by decide +kernel
theorem dX8_laysBack_0 : decode cX8_laysBack 0 = .ok (.iconst 0, 1) := by decide +kernel
theorem dX8_laysBack_1 : decode cX8_laysBack 1 = .ok (.istore_n 1, 1) := by decide +kernel
theorem dX8_laysBack_2 : decode cX8_laysBack 2 = .ok (.iload_n 1, 1) := by decide +kernel
theorem dX8_laysBack_3 : decode cX8_laysBack 3 = .ok (.bipush 76, 2) := by decide +kernel
theorem dX8_laysBack_5 : decode cX8_laysBack 5 = .ok (.if_icmp .ge 21, 3) := by decide +kernel
theorem dX8_laysBack_8 : decode cX8_laysBack 8 = .ok (.aload_n 0, 1) := by decide +kernel
theorem dX8_laysBack_9 : decode cX8_laysBack 9 = .ok (.getfield 7, 3) := by decide +kernel
theorem dX8_laysBack_12 : decode cX8_laysBack 12 = .ok (.iload_n 1, 1) := by decide +kernel
theorem dX8_laysBack_13 : decode cX8_laysBack 13 = .ok (.aload_n 0, 1) := by decide +kernel
theorem dX8_laysBack_14 : decode cX8_laysBack 14 = .ok (.getfield 53, 3) := by decide +kernel
theorem dX8_laysBack_17 : decode cX8_laysBack 17 = .ok (.iload_n 1, 1) := by decide +kernel
theorem dX8_laysBack_18 : decode cX8_laysBack 18 = .ok (.iaload, 1) := by decide +kernel
theorem dX8_laysBack_19 : decode cX8_laysBack 19 = .ok (.iastore, 1) := by decide +kernel
theorem dX8_laysBack_20 : decode cX8_laysBack 20 = .ok (.iinc 1 1, 3) := by decide +kernel
theorem dX8_laysBack_23 : decode cX8_laysBack 23 = .ok (.goto (-21), 3) := by decide +kernel
theorem dX8_laysBack_26 : decode cX8_laysBack 26 = .ok (.return_, 1) := by decide +kernel
theorem dX8_behind_0 : decode cX8_behind 0 = .ok (.iload_n 1, 1) := by decide +kernel
theorem dX8_behind_1 : decode cX8_behind 1 = .ok (.i2l, 1) := by decide +kernel
theorem dX8_behind_2 : decode cX8_behind 2 = .ok (.lconst 0, 1) := by decide +kernel
theorem dX8_behind_3 : decode cX8_behind 3 = .ok (.ldc2_w 148, 3) := by decide +kernel
theorem dX8_behind_6 : decode cX8_behind 6 = .ok (.invokestatic 75, 3) := by decide +kernel
theorem dX8_behind_9 : decode cX8_behind 9 = .ok (.ifCond .eq 21, 3) := by decide +kernel
theorem dX8_behind_12 : decode cX8_behind 12 = .ok (.iload_n 2, 1) := by decide +kernel
theorem dX8_behind_13 : decode cX8_behind 13 = .ok (.i2l, 1) := by decide +kernel
theorem dX8_behind_14 : decode cX8_behind 14 = .ok (.lconst 0, 1) := by decide +kernel
theorem dX8_behind_15 : decode cX8_behind 15 = .ok (.iconst 1, 1) := by decide +kernel
theorem dX8_behind_16 : decode cX8_behind 16 = .ok (.aload_n 0, 1) := by decide +kernel
theorem dX8_behind_17 : decode cX8_behind 17 = .ok (.getfield 7, 3) := by decide +kernel
theorem dX8_behind_20 : decode cX8_behind 20 = .ok (.iconst 0, 1) := by decide +kernel
theorem dX8_behind_21 : decode cX8_behind 21 = .ok (.iaload, 1) := by decide +kernel
theorem dX8_behind_22 : decode cX8_behind 22 = .ok (.iadd, 1) := by decide +kernel
theorem dX8_behind_23 : decode cX8_behind 23 = .ok (.i2l, 1) := by decide +kernel
theorem dX8_behind_24 : decode cX8_behind 24 = .ok (.invokestatic 75, 3) := by decide +kernel
theorem dX8_behind_27 : decode cX8_behind 27 = .ok (.ifCond .ne 6, 3) := by decide +kernel
theorem dX8_behind_30 : decode cX8_behind 30 = .ok (.ldc 90, 2) := by decide +kernel
theorem dX8_behind_32 : decode cX8_behind 32 = .ok (.ireturn, 1) := by decide +kernel
theorem dX8_behind_33 : decode cX8_behind 33 = .ok (.aload_n 0, 1) := by decide +kernel
theorem dX8_behind_34 : decode cX8_behind 34 = .ok (.invokevirtual 177, 3) := by decide +kernel
theorem dX8_behind_37 : decode cX8_behind 37 = .ok (.aload_n 0, 1) := by decide +kernel
theorem dX8_behind_38 : decode cX8_behind 38 = .ok (.iload_n 1, 1) := by decide +kernel
theorem dX8_behind_39 : decode cX8_behind 39 = .ok (.invokevirtual 180, 3) := by decide +kernel
theorem dX8_behind_42 : decode cX8_behind 42 = .ok (.iload_n 2, 1) := by decide +kernel
theorem dX8_behind_43 : decode cX8_behind 43 = .ok (.ifCond .ne 10, 3) := by decide +kernel
theorem dX8_behind_46 : decode cX8_behind 46 = .ok (.aload_n 0, 1) := by decide +kernel
theorem dX8_behind_47 : decode cX8_behind 47 = .ok (.invokevirtual 165, 3) := by decide +kernel
theorem dX8_behind_50 : decode cX8_behind 50 = .ok (.goto 28, 3) := by decide +kernel
theorem dX8_behind_53 : decode cX8_behind 53 = .ok (.iload_n 2, 1) := by decide +kernel
theorem dX8_behind_54 : decode cX8_behind 54 = .ok (.iconst 1, 1) := by decide +kernel
theorem dX8_behind_55 : decode cX8_behind 55 = .ok (.if_icmp .ne 12, 3) := by decide +kernel
theorem dX8_behind_58 : decode cX8_behind 58 = .ok (.aload_n 0, 1) := by decide +kernel
theorem dX8_behind_59 : decode cX8_behind 59 = .ok (.getfield 7, 3) := by decide +kernel
theorem dX8_behind_62 : decode cX8_behind 62 = .ok (.iconst 3, 1) := by decide +kernel
theorem dX8_behind_63 : decode cX8_behind 63 = .ok (.iaload, 1) := by decide +kernel
theorem dX8_behind_64 : decode cX8_behind 64 = .ok (.goto 14, 3) := by decide +kernel
theorem dX8_behind_67 : decode cX8_behind 67 = .ok (.aload_n 0, 1) := by decide +kernel
theorem dX8_behind_68 : decode cX8_behind 68 = .ok (.getfield 7, 3) := by decide +kernel
theorem dX8_behind_71 : decode cX8_behind 71 = .ok (.bipush 6, 2) := by decide +kernel
theorem dX8_behind_73 : decode cX8_behind 73 = .ok (.iload_n 2, 1) := by decide +kernel
theorem dX8_behind_74 : decode cX8_behind 74 = .ok (.iadd, 1) := by decide +kernel
theorem dX8_behind_75 : decode cX8_behind 75 = .ok (.iconst 2, 1) := by decide +kernel
theorem dX8_behind_76 : decode cX8_behind 76 = .ok (.isub, 1) := by decide +kernel
theorem dX8_behind_77 : decode cX8_behind 77 = .ok (.iaload, 1) := by decide +kernel
theorem dX8_behind_78 : decode cX8_behind 78 = .ok (.istore_n 3, 1) := by decide +kernel
theorem dX8_behind_79 : decode cX8_behind 79 = .ok (.aload_n 0, 1) := by decide +kernel
theorem dX8_behind_80 : decode cX8_behind 80 = .ok (.invokevirtual 184, 3) := by decide +kernel
theorem dX8_behind_83 : decode cX8_behind 83 = .ok (.iload_n 3, 1) := by decide +kernel
theorem dX8_behind_84 : decode cX8_behind 84 = .ok (.ireturn, 1) := by decide +kernel
theorem dX8_rests_0 : decode cX8_rests 0 = .ok (.aload_n 0, 1) := by decide +kernel
theorem dX8_rests_1 : decode cX8_rests 1 = .ok (.invokevirtual 177, 3) := by decide +kernel
theorem dX8_rests_4 : decode cX8_rests 4 = .ok (.iconst (-1), 1) := by decide +kernel
theorem dX8_rests_5 : decode cX8_rests 5 = .ok (.istore_n 1, 1) := by decide +kernel
theorem dX8_rests_6 : decode cX8_rests 6 = .ok (.iconst 0, 1) := by decide +kernel
theorem dX8_rests_7 : decode cX8_rests 7 = .ok (.istore_n 2, 1) := by decide +kernel
theorem dX8_rests_8 : decode cX8_rests 8 = .ok (.iload_n 2, 1) := by decide +kernel
theorem dX8_rests_9 : decode cX8_rests 9 = .ok (.sipush 300, 3) := by decide +kernel
theorem dX8_rests_12 : decode cX8_rests 12 = .ok (.if_icmp .gt 30, 3) := by decide +kernel
theorem dX8_rests_15 : decode cX8_rests 15 = .ok (.iload_n 1, 1) := by decide +kernel
theorem dX8_rests_16 : decode cX8_rests 16 = .ok (.ifCond .ge 26, 3) := by decide +kernel
theorem dX8_rests_19 : decode cX8_rests 19 = .ok (.aload_n 0, 1) := by decide +kernel
theorem dX8_rests_20 : decode cX8_rests 20 = .ok (.invokevirtual 171, 3) := by decide +kernel
theorem dX8_rests_23 : decode cX8_rests 23 = .ok (.ifCond .ne 7, 3) := by decide +kernel
theorem dX8_rests_26 : decode cX8_rests 26 = .ok (.iload_n 2, 1) := by decide +kernel
theorem dX8_rests_27 : decode cX8_rests 27 = .ok (.goto 4, 3) := by decide +kernel
theorem dX8_rests_30 : decode cX8_rests 30 = .ok (.iconst (-1), 1) := by decide +kernel
theorem dX8_rests_31 : decode cX8_rests 31 = .ok (.istore_n 1, 1) := by decide +kernel
theorem dX8_rests_32 : decode cX8_rests 32 = .ok (.aload_n 0, 1) := by decide +kernel
theorem dX8_rests_33 : decode cX8_rests 33 = .ok (.invokevirtual 159, 3) := by decide +kernel
theorem dX8_rests_36 : decode cX8_rests 36 = .ok (.iinc 2 1, 3) := by decide +kernel
theorem dX8_rests_39 : decode cX8_rests 39 = .ok (.goto (-31), 3) := by decide +kernel
theorem dX8_rests_42 : decode cX8_rests 42 = .ok (.aload_n 0, 1) := by decide +kernel
theorem dX8_rests_43 : decode cX8_rests 43 = .ok (.invokevirtual 184, 3) := by decide +kernel
theorem dX8_rests_46 : decode cX8_rests 46 = .ok (.iload_n 1, 1) := by decide +kernel
theorem dX8_rests_47 : decode cX8_rests 47 = .ok (.invokestatic 187, 3) := by decide +kernel
theorem dX8_rests_50 : decode cX8_rests 50 = .ok (.ireturn, 1) := by decide +kernel
theorem dX8_padding_0 : decode cX8_padding 0 = .ok (.aload_n 0, 1) := by decide +kernel
theorem dX8_padding_1 : decode cX8_padding 1 = .ok (.iload_n 1, 1) := by decide +kernel
theorem dX8_padding_2 : decode cX8_padding 2 = .ok (.invokevirtual 112, 3) := by decide +kernel
theorem dX8_padding_5 : decode cX8_padding 5 = .ok (.ifCond .eq 28, 3) := by decide +kernel
theorem dX8_padding_8 : decode cX8_padding 8 = .ok (.aload_n 0, 1) := by decide +kernel
theorem dX8_padding_9 : decode cX8_padding 9 = .ok (.iload_n 2, 1) := by decide +kernel
theorem dX8_padding_10 : decode cX8_padding 10 = .ok (.invokevirtual 112, 3) := by decide +kernel
theorem dX8_padding_13 : decode cX8_padding 13 = .ok (.ifCond .eq 20, 3) := by decide +kernel
theorem dX8_padding_16 : decode cX8_padding 16 = .ok (.iload_n 1, 1) := by decide +kernel
theorem dX8_padding_17 : decode cX8_padding 17 = .ok (.iload_n 2, 1) := by decide +kernel
theorem dX8_padding_18 : decode cX8_padding 18 = .ok (.if_icmp .eq 15, 3) := by decide +kernel
theorem dX8_padding_21 : decode cX8_padding 21 = .ok (.iload_n 3, 1) := by decide +kernel
theorem dX8_padding_22 : decode cX8_padding 22 = .ok (.i2l, 1) := by decide +kernel
theorem dX8_padding_23 : decode cX8_padding 23 = .ok (.lconst 0, 1) := by decide +kernel
theorem dX8_padding_24 : decode cX8_padding 24 = .ok (.ldc2_w 190, 3) := by decide +kernel
theorem dX8_padding_27 : decode cX8_padding 27 = .ok (.invokestatic 75, 3) := by decide +kernel
theorem dX8_padding_30 : decode cX8_padding 30 = .ok (.ifCond .ne 6, 3) := by decide +kernel
theorem dX8_padding_33 : decode cX8_padding 33 = .ok (.ldc 90, 2) := by decide +kernel
theorem dX8_padding_35 : decode cX8_padding 35 = .ok (.ireturn, 1) := by decide +kernel
theorem dX8_padding_36 : decode cX8_padding 36 = .ok (.aload_n 0, 1) := by decide +kernel
theorem dX8_padding_37 : decode cX8_padding 37 = .ok (.invokevirtual 177, 3) := by decide +kernel
theorem dX8_padding_40 : decode cX8_padding 40 = .ok (.aload_n 0, 1) := by decide +kernel
theorem dX8_padding_41 : decode cX8_padding 41 = .ok (.iload_n 1, 1) := by decide +kernel
theorem dX8_padding_42 : decode cX8_padding 42 = .ok (.iconst 1, 1) := by decide +kernel
theorem dX8_padding_43 : decode cX8_padding 43 = .ok (.invokevirtual 99, 3) := by decide +kernel
theorem dX8_padding_46 : decode cX8_padding 46 = .ok (.istore 4, 2) := by decide +kernel
theorem dX8_padding_48 : decode cX8_padding 48 = .ok (.iconst (-1), 1) := by decide +kernel
theorem dX8_padding_49 : decode cX8_padding 49 = .ok (.istore 5, 2) := by decide +kernel
theorem dX8_padding_51 : decode cX8_padding 51 = .ok (.iconst 0, 1) := by decide +kernel
theorem dX8_padding_52 : decode cX8_padding 52 = .ok (.istore 6, 2) := by decide +kernel
theorem dX8_padding_54 : decode cX8_padding 54 = .ok (.iload 4, 2) := by decide +kernel
theorem dX8_padding_56 : decode cX8_padding 56 = .ok (.iload 6, 2) := by decide +kernel
theorem dX8_padding_58 : decode cX8_padding 58 = .ok (.iadd, 1) := by decide +kernel
theorem dX8_padding_59 : decode cX8_padding 59 = .ok (.bipush 99, 2) := by decide +kernel
theorem dX8_padding_61 : decode cX8_padding 61 = .ok (.if_icmp .gt 59, 3) := by decide +kernel
theorem dX8_padding_64 : decode cX8_padding 64 = .ok (.iload 5, 2) := by decide +kernel
theorem dX8_padding_66 : decode cX8_padding 66 = .ok (.ifCond .ge 54, 3) := by decide +kernel
theorem dX8_padding_69 : decode cX8_padding 69 = .ok (.aload_n 0, 1) := by decide +kernel
theorem dX8_padding_70 : decode cX8_padding 70 = .ok (.iload_n 1, 1) := by decide +kernel
theorem dX8_padding_71 : decode cX8_padding 71 = .ok (.iconst 1, 1) := by decide +kernel
theorem dX8_padding_72 : decode cX8_padding 72 = .ok (.iload 4, 2) := by decide +kernel
theorem dX8_padding_74 : decode cX8_padding 74 = .ok (.iload 6, 2) := by decide +kernel
theorem dX8_padding_76 : decode cX8_padding 76 = .ok (.iadd, 1) := by decide +kernel
theorem dX8_padding_77 : decode cX8_padding 77 = .ok (.invokevirtual 80, 3) := by decide +kernel
theorem dX8_padding_80 : decode cX8_padding 80 = .ok (.aload_n 0, 1) := by decide +kernel
theorem dX8_padding_81 : decode cX8_padding 81 = .ok (.iload_n 3, 1) := by decide +kernel
theorem dX8_padding_82 : decode cX8_padding 82 = .ok (.invokevirtual 180, 3) := by decide +kernel
theorem dX8_padding_85 : decode cX8_padding 85 = .ok (.aload_n 0, 1) := by decide +kernel
theorem dX8_padding_86 : decode cX8_padding 86 = .ok (.iload_n 1, 1) := by decide +kernel
theorem dX8_padding_87 : decode cX8_padding 87 = .ok (.invokevirtual 116, 3) := by decide +kernel
theorem dX8_padding_90 : decode cX8_padding 90 = .ok (.aload_n 0, 1) := by decide +kernel
theorem dX8_padding_91 : decode cX8_padding 91 = .ok (.iload_n 2, 1) := by decide +kernel
theorem dX8_padding_92 : decode cX8_padding 92 = .ok (.invokevirtual 116, 3) := by decide +kernel
theorem dX8_padding_95 : decode cX8_padding 95 = .ok (.invokestatic 192, 3) := by decide +kernel
theorem dX8_padding_98 : decode cX8_padding 98 = .ok (.iconst 1, 1) := by decide +kernel
theorem dX8_padding_99 : decode cX8_padding 99 = .ok (.if_icmp .ne 8, 3) := by decide +kernel
theorem dX8_padding_102 : decode cX8_padding 102 = .ok (.iload 6, 2) := by decide +kernel
theorem dX8_padding_104 : decode cX8_padding 104 = .ok (.goto 4, 3) := by decide +kernel
theorem dX8_padding_107 : decode cX8_padding 107 = .ok (.iconst (-1), 1) := by decide +kernel
theorem dX8_padding_108 : decode cX8_padding 108 = .ok (.istore 5, 2) := by decide +kernel
theorem dX8_padding_110 : decode cX8_padding 110 = .ok (.aload_n 0, 1) := by decide +kernel
theorem dX8_padding_111 : decode cX8_padding 111 = .ok (.invokevirtual 184, 3) := by decide +kernel
theorem dX8_padding_114 : decode cX8_padding 114 = .ok (.iinc 6 1, 3) := by decide +kernel
theorem dX8_padding_117 : decode cX8_padding 117 = .ok (.goto (-63), 3) := by decide +kernel
theorem dX8_padding_120 : decode cX8_padding 120 = .ok (.iload 5, 2) := by decide +kernel
theorem dX8_padding_122 : decode cX8_padding 122 = .ok (.invokestatic 187, 3) := by decide +kernel
theorem dX8_padding_125 : decode cX8_padding 125 = .ok (.ireturn, 1) := by decide +kernel
theorem dX8_stays_0 : decode cX8_stays 0 = .ok (.iload_n 1, 1) := by decide +kernel
theorem dX8_stays_1 : decode cX8_stays 1 = .ok (.i2l, 1) := by decide +kernel
theorem dX8_stays_2 : decode cX8_stays 2 = .ok (.lconst 0, 1) := by decide +kernel
theorem dX8_stays_3 : decode cX8_stays 3 = .ok (.ldc2_w 148, 3) := by decide +kernel
theorem dX8_stays_6 : decode cX8_stays 6 = .ok (.invokestatic 75, 3) := by decide +kernel
theorem dX8_stays_9 : decode cX8_stays 9 = .ok (.ifCond .ne 6, 3) := by decide +kernel
theorem dX8_stays_12 : decode cX8_stays 12 = .ok (.ldc 90, 2) := by decide +kernel
theorem dX8_stays_14 : decode cX8_stays 14 = .ok (.ireturn, 1) := by decide +kernel
theorem dX8_stays_15 : decode cX8_stays 15 = .ok (.aload_n 0, 1) := by decide +kernel
theorem dX8_stays_16 : decode cX8_stays 16 = .ok (.invokevirtual 177, 3) := by decide +kernel
theorem dX8_stays_19 : decode cX8_stays 19 = .ok (.aload_n 0, 1) := by decide +kernel
theorem dX8_stays_20 : decode cX8_stays 20 = .ok (.iload_n 1, 1) := by decide +kernel
theorem dX8_stays_21 : decode cX8_stays 21 = .ok (.invokevirtual 180, 3) := by decide +kernel
theorem dX8_stays_24 : decode cX8_stays 24 = .ok (.iconst 0, 1) := by decide +kernel
theorem dX8_stays_25 : decode cX8_stays 25 = .ok (.istore_n 2, 1) := by decide +kernel
theorem dX8_stays_26 : decode cX8_stays 26 = .ok (.iconst 0, 1) := by decide +kernel
theorem dX8_stays_27 : decode cX8_stays 27 = .ok (.istore_n 3, 1) := by decide +kernel
theorem dX8_stays_28 : decode cX8_stays 28 = .ok (.iload_n 3, 1) := by decide +kernel
theorem dX8_stays_29 : decode cX8_stays 29 = .ok (.aload_n 0, 1) := by decide +kernel
theorem dX8_stays_30 : decode cX8_stays 30 = .ok (.getfield 7, 3) := by decide +kernel
theorem dX8_stays_33 : decode cX8_stays 33 = .ok (.iconst 0, 1) := by decide +kernel
theorem dX8_stays_34 : decode cX8_stays 34 = .ok (.iaload, 1) := by decide +kernel
theorem dX8_stays_35 : decode cX8_stays 35 = .ok (.if_icmp .ge 48, 3) := by decide +kernel
theorem dX8_stays_38 : decode cX8_stays 38 = .ok (.iload_n 2, 1) := by decide +kernel
theorem dX8_stays_39 : decode cX8_stays 39 = .ok (.aload_n 0, 1) := by decide +kernel
theorem dX8_stays_40 : decode cX8_stays 40 = .ok (.getfield 7, 3) := by decide +kernel
theorem dX8_stays_43 : decode cX8_stays 43 = .ok (.bipush 6, 2) := by decide +kernel
theorem dX8_stays_45 : decode cX8_stays 45 = .ok (.iload_n 3, 1) := by decide +kernel
theorem dX8_stays_46 : decode cX8_stays 46 = .ok (.iadd, 1) := by decide +kernel
theorem dX8_stays_47 : decode cX8_stays 47 = .ok (.iaload, 1) := by decide +kernel
theorem dX8_stays_48 : decode cX8_stays 48 = .ok (.aload_n 0, 1) := by decide +kernel
theorem dX8_stays_49 : decode cX8_stays 49 = .ok (.getfield 53, 3) := by decide +kernel
theorem dX8_stays_52 : decode cX8_stays 52 = .ok (.bipush 6, 2) := by decide +kernel
theorem dX8_stays_54 : decode cX8_stays 54 = .ok (.iload_n 3, 1) := by decide +kernel
theorem dX8_stays_55 : decode cX8_stays 55 = .ok (.iadd, 1) := by decide +kernel
theorem dX8_stays_56 : decode cX8_stays 56 = .ok (.iaload, 1) := by decide +kernel
theorem dX8_stays_57 : decode cX8_stays 57 = .ok (.if_icmp .ne 17, 3) := by decide +kernel
theorem dX8_stays_60 : decode cX8_stays 60 = .ok (.iconst 1, 1) := by decide +kernel
theorem dX8_stays_61 : decode cX8_stays 61 = .ok (.aload_n 0, 1) := by decide +kernel
theorem dX8_stays_62 : decode cX8_stays 62 = .ok (.getfield 7, 3) := by decide +kernel
theorem dX8_stays_65 : decode cX8_stays 65 = .ok (.bipush 6, 2) := by decide +kernel
theorem dX8_stays_67 : decode cX8_stays 67 = .ok (.iload_n 3, 1) := by decide +kernel
theorem dX8_stays_68 : decode cX8_stays 68 = .ok (.iadd, 1) := by decide +kernel
theorem dX8_stays_69 : decode cX8_stays 69 = .ok (.iaload, 1) := by decide +kernel
theorem dX8_stays_70 : decode cX8_stays 70 = .ok (.ishl, 1) := by decide +kernel
theorem dX8_stays_71 : decode cX8_stays 71 = .ok (.goto 4, 3) := by decide +kernel
theorem dX8_stays_74 : decode cX8_stays 74 = .ok (.iconst 0, 1) := by decide +kernel
theorem dX8_stays_75 : decode cX8_stays 75 = .ok (.ior, 1) := by decide +kernel
theorem dX8_stays_76 : decode cX8_stays 76 = .ok (.istore_n 2, 1) := by decide +kernel
theorem dX8_stays_77 : decode cX8_stays 77 = .ok (.iinc 3 1, 3) := by decide +kernel
theorem dX8_stays_80 : decode cX8_stays 80 = .ok (.goto (-52), 3) := by decide +kernel
theorem dX8_stays_83 : decode cX8_stays 83 = .ok (.aload_n 0, 1) := by decide +kernel
theorem dX8_stays_84 : decode cX8_stays 84 = .ok (.invokevirtual 184, 3) := by decide +kernel
theorem dX8_stays_87 : decode cX8_stays 87 = .ok (.iload_n 2, 1) := by decide +kernel
theorem dX8_stays_88 : decode cX8_stays 88 = .ok (.ireturn, 1) := by decide +kernel
theorem dX8_bundle_0 : decode cX8_bundle 0 = .ok (.iload_n 1, 1) := by decide +kernel
theorem dX8_bundle_1 : decode cX8_bundle 1 = .ok (.i2l, 1) := by decide +kernel
theorem dX8_bundle_2 : decode cX8_bundle 2 = .ok (.lconst 0, 1) := by decide +kernel
theorem dX8_bundle_3 : decode cX8_bundle 3 = .ok (.ldc2_w 88, 3) := by decide +kernel
theorem dX8_bundle_6 : decode cX8_bundle 6 = .ok (.invokestatic 75, 3) := by decide +kernel
theorem dX8_bundle_9 : decode cX8_bundle 9 = .ok (.ifCond .eq 15, 3) := by decide +kernel
theorem dX8_bundle_12 : decode cX8_bundle 12 = .ok (.iload_n 2, 1) := by decide +kernel
theorem dX8_bundle_13 : decode cX8_bundle 13 = .ok (.i2l, 1) := by decide +kernel
theorem dX8_bundle_14 : decode cX8_bundle 14 = .ok (.lconst 0, 1) := by decide +kernel
theorem dX8_bundle_15 : decode cX8_bundle 15 = .ok (.ldc2_w 148, 3) := by decide +kernel
theorem dX8_bundle_18 : decode cX8_bundle 18 = .ok (.invokestatic 75, 3) := by decide +kernel
theorem dX8_bundle_21 : decode cX8_bundle 21 = .ok (.ifCond .ne 6, 3) := by decide +kernel
theorem dX8_bundle_24 : decode cX8_bundle 24 = .ok (.ldc 90, 2) := by decide +kernel
theorem dX8_bundle_26 : decode cX8_bundle 26 = .ok (.ireturn, 1) := by decide +kernel
theorem dX8_bundle_27 : decode cX8_bundle 27 = .ok (.aload_n 0, 1) := by decide +kernel
theorem dX8_bundle_28 : decode cX8_bundle 28 = .ok (.invokevirtual 177, 3) := by decide +kernel
theorem dX8_bundle_31 : decode cX8_bundle 31 = .ok (.aload_n 0, 1) := by decide +kernel
theorem dX8_bundle_32 : decode cX8_bundle 32 = .ok (.iload_n 2, 1) := by decide +kernel
theorem dX8_bundle_33 : decode cX8_bundle 33 = .ok (.invokevirtual 180, 3) := by decide +kernel
theorem dX8_bundle_36 : decode cX8_bundle 36 = .ok (.iconst 0, 1) := by decide +kernel
theorem dX8_bundle_37 : decode cX8_bundle 37 = .ok (.istore_n 3, 1) := by decide +kernel
theorem dX8_bundle_38 : decode cX8_bundle 38 = .ok (.iconst 0, 1) := by decide +kernel
theorem dX8_bundle_39 : decode cX8_bundle 39 = .ok (.istore 4, 2) := by decide +kernel
theorem dX8_bundle_41 : decode cX8_bundle 41 = .ok (.iload 4, 2) := by decide +kernel
theorem dX8_bundle_43 : decode cX8_bundle 43 = .ok (.aload_n 0, 1) := by decide +kernel
theorem dX8_bundle_44 : decode cX8_bundle 44 = .ok (.getfield 7, 3) := by decide +kernel
theorem dX8_bundle_47 : decode cX8_bundle 47 = .ok (.iconst 0, 1) := by decide +kernel
theorem dX8_bundle_48 : decode cX8_bundle 48 = .ok (.iaload, 1) := by decide +kernel
theorem dX8_bundle_49 : decode cX8_bundle 49 = .ok (.if_icmp .ge 44, 3) := by decide +kernel
theorem dX8_bundle_52 : decode cX8_bundle 52 = .ok (.iload_n 3, 1) := by decide +kernel
theorem dX8_bundle_53 : decode cX8_bundle 53 = .ok (.aload_n 0, 1) := by decide +kernel
theorem dX8_bundle_54 : decode cX8_bundle 54 = .ok (.iload 4, 2) := by decide +kernel
theorem dX8_bundle_56 : decode cX8_bundle 56 = .ok (.invokevirtual 162, 3) := by decide +kernel
theorem dX8_bundle_59 : decode cX8_bundle 59 = .ok (.iload_n 1, 1) := by decide +kernel
theorem dX8_bundle_60 : decode cX8_bundle 60 = .ok (.if_icmp .ne 24, 3) := by decide +kernel
theorem dX8_bundle_63 : decode cX8_bundle 63 = .ok (.iload 4, 2) := by decide +kernel
theorem dX8_bundle_65 : decode cX8_bundle 65 = .ok (.ifCond .eq 15, 3) := by decide +kernel
theorem dX8_bundle_68 : decode cX8_bundle 68 = .ok (.aload_n 0, 1) := by decide +kernel
theorem dX8_bundle_69 : decode cX8_bundle 69 = .ok (.iload 4, 2) := by decide +kernel
theorem dX8_bundle_71 : decode cX8_bundle 71 = .ok (.iconst 1, 1) := by decide +kernel
theorem dX8_bundle_72 : decode cX8_bundle 72 = .ok (.isub, 1) := by decide +kernel
theorem dX8_bundle_73 : decode cX8_bundle 73 = .ok (.invokevirtual 162, 3) := by decide +kernel
theorem dX8_bundle_76 : decode cX8_bundle 76 = .ok (.iload_n 1, 1) := by decide +kernel
theorem dX8_bundle_77 : decode cX8_bundle 77 = .ok (.if_icmp .eq 7, 3) := by decide +kernel
theorem dX8_bundle_80 : decode cX8_bundle 80 = .ok (.iconst 1, 1) := by decide +kernel
theorem dX8_bundle_81 : decode cX8_bundle 81 = .ok (.goto 4, 3) := by decide +kernel
theorem dX8_bundle_84 : decode cX8_bundle 84 = .ok (.iconst 0, 1) := by decide +kernel
theorem dX8_bundle_85 : decode cX8_bundle 85 = .ok (.iadd, 1) := by decide +kernel
theorem dX8_bundle_86 : decode cX8_bundle 86 = .ok (.istore_n 3, 1) := by decide +kernel
theorem dX8_bundle_87 : decode cX8_bundle 87 = .ok (.iinc 4 1, 3) := by decide +kernel
theorem dX8_bundle_90 : decode cX8_bundle 90 = .ok (.goto (-49), 3) := by decide +kernel
theorem dX8_bundle_93 : decode cX8_bundle 93 = .ok (.aload_n 0, 1) := by decide +kernel
theorem dX8_bundle_94 : decode cX8_bundle 94 = .ok (.invokevirtual 184, 3) := by decide +kernel
theorem dX8_bundle_97 : decode cX8_bundle 97 = .ok (.iload_n 3, 1) := by decide +kernel
theorem dX8_bundle_98 : decode cX8_bundle 98 = .ok (.iconst 2, 1) := by decide +kernel
theorem dX8_bundle_99 : decode cX8_bundle 99 = .ok (.if_icmp .ge 7, 3) := by decide +kernel
theorem dX8_bundle_102 : decode cX8_bundle 102 = .ok (.iconst 1, 1) := by decide +kernel
theorem dX8_bundle_103 : decode cX8_bundle 103 = .ok (.goto 4, 3) := by decide +kernel
theorem dX8_bundle_106 : decode cX8_bundle 106 = .ok (.iconst 0, 1) := by decide +kernel
theorem dX8_bundle_107 : decode cX8_bundle 107 = .ok (.ireturn, 1) := by decide +kernel
theorem dX8_halts_0 : decode cX8_halts 0 = .ok (.iload_n 1, 1) := by decide +kernel
theorem dX8_halts_1 : decode cX8_halts 1 = .ok (.i2l, 1) := by decide +kernel
theorem dX8_halts_2 : decode cX8_halts 2 = .ok (.lconst 0, 1) := by decide +kernel
theorem dX8_halts_3 : decode cX8_halts 3 = .ok (.ldc2_w 190, 3) := by decide +kernel
theorem dX8_halts_6 : decode cX8_halts 6 = .ok (.invokestatic 75, 3) := by decide +kernel
theorem dX8_halts_9 : decode cX8_halts 9 = .ok (.ifCond .eq 13, 3) := by decide +kernel
theorem dX8_halts_12 : decode cX8_halts 12 = .ok (.iload_n 2, 1) := by decide +kernel
theorem dX8_halts_13 : decode cX8_halts 13 = .ok (.i2l, 1) := by decide +kernel
theorem dX8_halts_14 : decode cX8_halts 14 = .ok (.lconst 0, 1) := by decide +kernel
theorem dX8_halts_15 : decode cX8_halts 15 = .ok (.lconst 1, 1) := by decide +kernel
theorem dX8_halts_16 : decode cX8_halts 16 = .ok (.invokestatic 75, 3) := by decide +kernel
theorem dX8_halts_19 : decode cX8_halts 19 = .ok (.ifCond .ne 6, 3) := by decide +kernel
theorem dX8_halts_22 : decode cX8_halts 22 = .ok (.ldc 90, 2) := by decide +kernel
theorem dX8_halts_24 : decode cX8_halts 24 = .ok (.ireturn, 1) := by decide +kernel
theorem dX8_halts_25 : decode cX8_halts 25 = .ok (.aload_n 0, 1) := by decide +kernel
theorem dX8_halts_26 : decode cX8_halts 26 = .ok (.invokevirtual 177, 3) := by decide +kernel
theorem dX8_halts_29 : decode cX8_halts 29 = .ok (.iconst (-1), 1) := by decide +kernel
theorem dX8_halts_30 : decode cX8_halts 30 = .ok (.istore_n 3, 1) := by decide +kernel
theorem dX8_halts_31 : decode cX8_halts 31 = .ok (.iconst 0, 1) := by decide +kernel
theorem dX8_halts_32 : decode cX8_halts 32 = .ok (.istore 4, 2) := by decide +kernel
theorem dX8_halts_34 : decode cX8_halts 34 = .ok (.iconst 0, 1) := by decide +kernel
theorem dX8_halts_35 : decode cX8_halts 35 = .ok (.istore 5, 2) := by decide +kernel
theorem dX8_halts_37 : decode cX8_halts 37 = .ok (.iload 5, 2) := by decide +kernel
theorem dX8_halts_39 : decode cX8_halts 39 = .ok (.iload_n 1, 1) := by decide +kernel
theorem dX8_halts_40 : decode cX8_halts 40 = .ok (.if_icmp .gt 55, 3) := by decide +kernel
theorem dX8_halts_43 : decode cX8_halts 43 = .ok (.aload_n 0, 1) := by decide +kernel
theorem dX8_halts_44 : decode cX8_halts 44 = .ok (.iload 5, 2) := by decide +kernel
theorem dX8_halts_46 : decode cX8_halts 46 = .ok (.invokevirtual 180, 3) := by decide +kernel
theorem dX8_halts_49 : decode cX8_halts 49 = .ok (.aload_n 0, 1) := by decide +kernel
theorem dX8_halts_50 : decode cX8_halts 50 = .ok (.invokevirtual 145, 3) := by decide +kernel
theorem dX8_halts_53 : decode cX8_halts 53 = .ok (.aload_n 0, 1) := by decide +kernel
theorem dX8_halts_54 : decode cX8_halts 54 = .ok (.iload_n 1, 1) := by decide +kernel
theorem dX8_halts_55 : decode cX8_halts 55 = .ok (.iload 5, 2) := by decide +kernel
theorem dX8_halts_57 : decode cX8_halts 57 = .ok (.isub, 1) := by decide +kernel
theorem dX8_halts_58 : decode cX8_halts 58 = .ok (.invokevirtual 180, 3) := by decide +kernel
theorem dX8_halts_61 : decode cX8_halts 61 = .ok (.aload_n 0, 1) := by decide +kernel
theorem dX8_halts_62 : decode cX8_halts 62 = .ok (.invokevirtual 165, 3) := by decide +kernel
theorem dX8_halts_65 : decode cX8_halts 65 = .ok (.istore 6, 2) := by decide +kernel
theorem dX8_halts_67 : decode cX8_halts 67 = .ok (.aload_n 0, 1) := by decide +kernel
theorem dX8_halts_68 : decode cX8_halts 68 = .ok (.invokevirtual 184, 3) := by decide +kernel
theorem dX8_halts_71 : decode cX8_halts 71 = .ok (.iload_n 3, 1) := by decide +kernel
theorem dX8_halts_72 : decode cX8_halts 72 = .ok (.ifCond .lt 10, 3) := by decide +kernel
theorem dX8_halts_75 : decode cX8_halts 75 = .ok (.iload 6, 2) := by decide +kernel
theorem dX8_halts_77 : decode cX8_halts 77 = .ok (.iload 4, 2) := by decide +kernel
theorem dX8_halts_79 : decode cX8_halts 79 = .ok (.if_icmp .ge 10, 3) := by decide +kernel
theorem dX8_halts_82 : decode cX8_halts 82 = .ok (.iload 5, 2) := by decide +kernel
theorem dX8_halts_84 : decode cX8_halts 84 = .ok (.istore_n 3, 1) := by decide +kernel
theorem dX8_halts_85 : decode cX8_halts 85 = .ok (.iload 6, 2) := by decide +kernel
theorem dX8_halts_87 : decode cX8_halts 87 = .ok (.istore 4, 2) := by decide +kernel
theorem dX8_halts_89 : decode cX8_halts 89 = .ok (.iinc 5 1, 3) := by decide +kernel
theorem dX8_halts_92 : decode cX8_halts 92 = .ok (.goto (-55), 3) := by decide +kernel
theorem dX8_halts_95 : decode cX8_halts 95 = .ok (.iload_n 2, 1) := by decide +kernel
theorem dX8_halts_96 : decode cX8_halts 96 = .ok (.ifCond .ne 7, 3) := by decide +kernel
theorem dX8_halts_99 : decode cX8_halts 99 = .ok (.iload_n 3, 1) := by decide +kernel
theorem dX8_halts_100 : decode cX8_halts 100 = .ok (.goto 5, 3) := by decide +kernel
theorem dX8_halts_103 : decode cX8_halts 103 = .ok (.iload 4, 2) := by decide +kernel
theorem dX8_halts_105 : decode cX8_halts 105 = .ok (.ireturn, 1) := by decide +kernel
theorem dX8_fee_0 : decode cX8_fee 0 = .ok (.aload_n 0, 1) := by decide +kernel
theorem dX8_fee_1 : decode cX8_fee 1 = .ok (.iconst 1, 1) := by decide +kernel
theorem dX8_fee_2 : decode cX8_fee 2 = .ok (.invokevirtual 95, 3) := by decide +kernel
theorem dX8_fee_5 : decode cX8_fee 5 = .ok (.istore_n 1, 1) := by decide +kernel
theorem dX8_fee_6 : decode cX8_fee 6 = .ok (.iload_n 1, 1) := by decide +kernel
theorem dX8_fee_7 : decode cX8_fee 7 = .ok (.ifCond .ge 8, 3) := by decide +kernel
theorem dX8_fee_10 : decode cX8_fee 10 = .ok (.aload_n 0, 1) := by decide +kernel
theorem dX8_fee_11 : decode cX8_fee 11 = .ok (.invokevirtual 165, 3) := by decide +kernel
theorem dX8_fee_14 : decode cX8_fee 14 = .ok (.ireturn, 1) := by decide +kernel
theorem dX8_fee_15 : decode cX8_fee 15 = .ok (.aload_n 0, 1) := by decide +kernel
theorem dX8_fee_16 : decode cX8_fee 16 = .ok (.getfield 59, 3) := by decide +kernel
theorem dX8_fee_19 : decode cX8_fee 19 = .ok (.bipush 109, 2) := by decide +kernel
theorem dX8_fee_21 : decode cX8_fee 21 = .ok (.aload_n 0, 1) := by decide +kernel
theorem dX8_fee_22 : decode cX8_fee 22 = .ok (.invokevirtual 165, 3) := by decide +kernel
theorem dX8_fee_25 : decode cX8_fee 25 = .ok (.iastore, 1) := by decide +kernel
theorem dX8_fee_26 : decode cX8_fee 26 = .ok (.aload_n 0, 1) := by decide +kernel
theorem dX8_fee_27 : decode cX8_fee 27 = .ok (.getfield 59, 3) := by decide +kernel
theorem dX8_fee_30 : decode cX8_fee 30 = .ok (.bipush 106, 2) := by decide +kernel
theorem dX8_fee_32 : decode cX8_fee 32 = .ok (.aload_n 0, 1) := by decide +kernel
theorem dX8_fee_33 : decode cX8_fee 33 = .ok (.getfield 7, 3) := by decide +kernel
theorem dX8_fee_36 : decode cX8_fee 36 = .ok (.iconst 2, 1) := by decide +kernel
theorem dX8_fee_37 : decode cX8_fee 37 = .ok (.iaload, 1) := by decide +kernel
theorem dX8_fee_38 : decode cX8_fee 38 = .ok (.iastore, 1) := by decide +kernel
theorem dX8_fee_39 : decode cX8_fee 39 = .ok (.aload_n 0, 1) := by decide +kernel
theorem dX8_fee_40 : decode cX8_fee 40 = .ok (.iload_n 1, 1) := by decide +kernel
theorem dX8_fee_41 : decode cX8_fee 41 = .ok (.invokevirtual 103, 3) := by decide +kernel
theorem dX8_fee_44 : decode cX8_fee 44 = .ok (.ireturn, 1) := by decide +kernel
theorem dX8_fine_0 : decode cX8_fine 0 = .ok (.aload_n 0, 1) := by decide +kernel
theorem dX8_fine_1 : decode cX8_fine 1 = .ok (.iload_n 1, 1) := by decide +kernel
theorem dX8_fine_2 : decode cX8_fine 2 = .ok (.invokevirtual 112, 3) := by decide +kernel
theorem dX8_fine_5 : decode cX8_fine 5 = .ok (.ifCond .ne 6, 3) := by decide +kernel
theorem dX8_fine_8 : decode cX8_fine 8 = .ok (.ldc 90, 2) := by decide +kernel
theorem dX8_fine_10 : decode cX8_fine 10 = .ok (.ireturn, 1) := by decide +kernel
theorem dX8_fine_11 : decode cX8_fine 11 = .ok (.aload_n 0, 1) := by decide +kernel
theorem dX8_fine_12 : decode cX8_fine 12 = .ok (.iconst 2, 1) := by decide +kernel
theorem dX8_fine_13 : decode cX8_fine 13 = .ok (.invokevirtual 95, 3) := by decide +kernel
theorem dX8_fine_16 : decode cX8_fine 16 = .ok (.istore_n 2, 1) := by decide +kernel
theorem dX8_fine_17 : decode cX8_fine 17 = .ok (.iload_n 2, 1) := by decide +kernel
theorem dX8_fine_18 : decode cX8_fine 18 = .ok (.ifCond .ge 9, 3) := by decide +kernel
theorem dX8_fine_21 : decode cX8_fine 21 = .ok (.aload_n 0, 1) := by decide +kernel
theorem dX8_fine_22 : decode cX8_fine 22 = .ok (.iload_n 1, 1) := by decide +kernel
theorem dX8_fine_23 : decode cX8_fine 23 = .ok (.invokevirtual 116, 3) := by decide +kernel
theorem dX8_fine_26 : decode cX8_fine 26 = .ok (.ireturn, 1) := by decide +kernel
theorem dX8_fine_27 : decode cX8_fine 27 = .ok (.aload_n 0, 1) := by decide +kernel
theorem dX8_fine_28 : decode cX8_fine 28 = .ok (.getfield 59, 3) := by decide +kernel
theorem dX8_fine_31 : decode cX8_fine 31 = .ok (.bipush 116, 2) := by decide +kernel
theorem dX8_fine_33 : decode cX8_fine 33 = .ok (.aload_n 0, 1) := by decide +kernel
theorem dX8_fine_34 : decode cX8_fine 34 = .ok (.iload_n 1, 1) := by decide +kernel
theorem dX8_fine_35 : decode cX8_fine 35 = .ok (.iconst 1, 1) := by decide +kernel
theorem dX8_fine_36 : decode cX8_fine 36 = .ok (.invokevirtual 99, 3) := by decide +kernel
theorem dX8_fine_39 : decode cX8_fine 39 = .ok (.iastore, 1) := by decide +kernel
theorem dX8_fine_40 : decode cX8_fine 40 = .ok (.aload_n 0, 1) := by decide +kernel
theorem dX8_fine_41 : decode cX8_fine 41 = .ok (.getfield 59, 3) := by decide +kernel
theorem dX8_fine_44 : decode cX8_fine 44 = .ok (.bipush 112, 2) := by decide +kernel
theorem dX8_fine_46 : decode cX8_fine 46 = .ok (.aload_n 0, 1) := by decide +kernel
theorem dX8_fine_47 : decode cX8_fine 47 = .ok (.iload_n 1, 1) := by decide +kernel
theorem dX8_fine_48 : decode cX8_fine 48 = .ok (.invokevirtual 116, 3) := by decide +kernel
theorem dX8_fine_51 : decode cX8_fine 51 = .ok (.iastore, 1) := by decide +kernel
theorem dX8_fine_52 : decode cX8_fine 52 = .ok (.aload_n 0, 1) := by decide +kernel
theorem dX8_fine_53 : decode cX8_fine 53 = .ok (.iload_n 2, 1) := by decide +kernel
theorem dX8_fine_54 : decode cX8_fine 54 = .ok (.invokevirtual 103, 3) := by decide +kernel
theorem dX8_fine_57 : decode cX8_fine 57 = .ok (.ireturn, 1) := by decide +kernel
theorem dX8_feed_0 : decode cX8_feed 0 = .ok (.aload_n 0, 1) := by decide +kernel
theorem dX8_feed_1 : decode cX8_feed 1 = .ok (.getfield 195, 3) := by decide +kernel
theorem dX8_feed_4 : decode cX8_feed 4 = .ok (.bipush 12, 2) := by decide +kernel
theorem dX8_feed_6 : decode cX8_feed 6 = .ok (.iadd, 1) := by decide +kernel
theorem dX8_feed_7 : decode cX8_feed 7 = .ok (.bipush 96, 2) := by decide +kernel
theorem dX8_feed_9 : decode cX8_feed 9 = .ok (.if_icmp .le 6, 3) := by decide +kernel
theorem dX8_feed_12 : decode cX8_feed 12 = .ok (.ldc 91, 2) := by decide +kernel
theorem dX8_feed_14 : decode cX8_feed 14 = .ok (.ireturn, 1) := by decide +kernel
theorem dX8_feed_15 : decode cX8_feed 15 = .ok (.iconst 0, 1) := by decide +kernel
theorem dX8_feed_16 : decode cX8_feed 16 = .ok (.istore 4, 2) := by decide +kernel
theorem dX8_feed_18 : decode cX8_feed 18 = .ok (.iload 4, 2) := by decide +kernel
theorem dX8_feed_20 : decode cX8_feed 20 = .ok (.bipush 12, 2) := by decide +kernel
theorem dX8_feed_22 : decode cX8_feed 22 = .ok (.if_icmp .ge 69, 3) := by decide +kernel
theorem dX8_feed_25 : decode cX8_feed 25 = .ok (.iload 4, 2) := by decide +kernel
theorem dX8_feed_27 : decode cX8_feed 27 = .ok (.iconst 4, 1) := by decide +kernel
theorem dX8_feed_28 : decode cX8_feed 28 = .ok (.if_icmp .ge 7, 3) := by decide +kernel
theorem dX8_feed_31 : decode cX8_feed 31 = .ok (.iload_n 1, 1) := by decide +kernel
theorem dX8_feed_32 : decode cX8_feed 32 = .ok (.goto 15, 3) := by decide +kernel
theorem dX8_feed_35 : decode cX8_feed 35 = .ok (.iload 4, 2) := by decide +kernel
theorem dX8_feed_37 : decode cX8_feed 37 = .ok (.bipush 8, 2) := by decide +kernel
theorem dX8_feed_39 : decode cX8_feed 39 = .ok (.if_icmp .ge 7, 3) := by decide +kernel
theorem dX8_feed_42 : decode cX8_feed 42 = .ok (.iload_n 2, 1) := by decide +kernel
theorem dX8_feed_43 : decode cX8_feed 43 = .ok (.goto 4, 3) := by decide +kernel
theorem dX8_feed_46 : decode cX8_feed 46 = .ok (.iload_n 3, 1) := by decide +kernel
theorem dX8_feed_47 : decode cX8_feed 47 = .ok (.istore 5, 2) := by decide +kernel
theorem dX8_feed_49 : decode cX8_feed 49 = .ok (.aload_n 0, 1) := by decide +kernel
theorem dX8_feed_50 : decode cX8_feed 50 = .ok (.getfield 56, 3) := by decide +kernel
theorem dX8_feed_53 : decode cX8_feed 53 = .ok (.aload_n 0, 1) := by decide +kernel
theorem dX8_feed_54 : decode cX8_feed 54 = .ok (.getfield 195, 3) := by decide +kernel
theorem dX8_feed_57 : decode cX8_feed 57 = .ok (.iload 5, 2) := by decide +kernel
theorem dX8_feed_59 : decode cX8_feed 59 = .ok (.bipush 24, 2) := by decide +kernel
theorem dX8_feed_61 : decode cX8_feed 61 = .ok (.bipush 8, 2) := by decide +kernel
theorem dX8_feed_63 : decode cX8_feed 63 = .ok (.iload 4, 2) := by decide +kernel
theorem dX8_feed_65 : decode cX8_feed 65 = .ok (.iconst 4, 1) := by decide +kernel
theorem dX8_feed_66 : decode cX8_feed 66 = .ok (.irem, 1) := by decide +kernel
theorem dX8_feed_67 : decode cX8_feed 67 = .ok (.imul, 1) := by decide +kernel
theorem dX8_feed_68 : decode cX8_feed 68 = .ok (.isub, 1) := by decide +kernel
theorem dX8_feed_69 : decode cX8_feed 69 = .ok (.ishr, 1) := by decide +kernel
theorem dX8_feed_70 : decode cX8_feed 70 = .ok (.sipush 255, 3) := by decide +kernel
theorem dX8_feed_73 : decode cX8_feed 73 = .ok (.iand, 1) := by decide +kernel
theorem dX8_feed_74 : decode cX8_feed 74 = .ok (.iastore, 1) := by decide +kernel
theorem dX8_feed_75 : decode cX8_feed 75 = .ok (.aload_n 0, 1) := by decide +kernel
theorem dX8_feed_76 : decode cX8_feed 76 = .ok (.dup, 1) := by decide +kernel
theorem dX8_feed_77 : decode cX8_feed 77 = .ok (.getfield 195, 3) := by decide +kernel
theorem dX8_feed_80 : decode cX8_feed 80 = .ok (.iconst 1, 1) := by decide +kernel
theorem dX8_feed_81 : decode cX8_feed 81 = .ok (.iadd, 1) := by decide +kernel
theorem dX8_feed_82 : decode cX8_feed 82 = .ok (.putfield 195, 3) := by decide +kernel
theorem dX8_feed_85 : decode cX8_feed 85 = .ok (.iinc 4 1, 3) := by decide +kernel
theorem dX8_feed_88 : decode cX8_feed 88 = .ok (.goto (-70), 3) := by decide +kernel
theorem dX8_feed_91 : decode cX8_feed 91 = .ok (.aload_n 0, 1) := by decide +kernel
theorem dX8_feed_92 : decode cX8_feed 92 = .ok (.getfield 195, 3) := by decide +kernel
theorem dX8_feed_95 : decode cX8_feed 95 = .ok (.ireturn, 1) := by decide +kernel
theorem dX8_trim_0 : decode cX8_trim 0 = .ok (.iload_n 1, 1) := by decide +kernel
theorem dX8_trim_1 : decode cX8_trim 1 = .ok (.i2l, 1) := by decide +kernel
theorem dX8_trim_2 : decode cX8_trim 2 = .ok (.lconst 0, 1) := by decide +kernel
theorem dX8_trim_3 : decode cX8_trim 3 = .ok (.aload_n 0, 1) := by decide +kernel
theorem dX8_trim_4 : decode cX8_trim 4 = .ok (.getfield 195, 3) := by decide +kernel
theorem dX8_trim_7 : decode cX8_trim 7 = .ok (.i2l, 1) := by decide +kernel
theorem dX8_trim_8 : decode cX8_trim 8 = .ok (.invokestatic 75, 3) := by decide +kernel
theorem dX8_trim_11 : decode cX8_trim 11 = .ok (.ifCond .ne 6, 3) := by decide +kernel
theorem dX8_trim_14 : decode cX8_trim 14 = .ok (.ldc 90, 2) := by decide +kernel
theorem dX8_trim_16 : decode cX8_trim 16 = .ok (.ireturn, 1) := by decide +kernel
theorem dX8_trim_17 : decode cX8_trim 17 = .ok (.aload_n 0, 1) := by decide +kernel
theorem dX8_trim_18 : decode cX8_trim 18 = .ok (.iload_n 1, 1) := by decide +kernel
theorem dX8_trim_19 : decode cX8_trim 19 = .ok (.putfield 195, 3) := by decide +kernel
theorem dX8_trim_22 : decode cX8_trim 22 = .ok (.iload_n 1, 1) := by decide +kernel
theorem dX8_trim_23 : decode cX8_trim 23 = .ok (.ireturn, 1) := by decide +kernel
theorem dX8_isLetter_0 : decode cX8_isLetter 0 = .ok (.iload_n 1, 1) := by decide +kernel
theorem dX8_isLetter_1 : decode cX8_isLetter 1 = .ok (.aload_n 0, 1) := by decide +kernel
theorem dX8_isLetter_2 : decode cX8_isLetter 2 = .ok (.getfield 195, 3) := by decide +kernel
theorem dX8_isLetter_5 : decode cX8_isLetter 5 = .ok (.if_icmp .ge 26, 3) := by decide +kernel
theorem dX8_isLetter_8 : decode cX8_isLetter 8 = .ok (.aload_n 0, 1) := by decide +kernel
theorem dX8_isLetter_9 : decode cX8_isLetter 9 = .ok (.getfield 56, 3) := by decide +kernel
theorem dX8_isLetter_12 : decode cX8_isLetter 12 = .ok (.iload_n 1, 1) := by decide +kernel
theorem dX8_isLetter_13 : decode cX8_isLetter 13 = .ok (.iaload, 1) := by decide +kernel
theorem dX8_isLetter_14 : decode cX8_isLetter 14 = .ok (.i2l, 1) := by decide +kernel
theorem dX8_isLetter_15 : decode cX8_isLetter 15 = .ok (.ldc2_w 198, 3) := by decide +kernel
theorem dX8_isLetter_18 : decode cX8_isLetter 18 = .ok (.ldc2_w 200, 3) := by decide +kernel
theorem dX8_isLetter_21 : decode cX8_isLetter 21 = .ok (.invokestatic 75, 3) := by decide +kernel
theorem dX8_isLetter_24 : decode cX8_isLetter 24 = .ok (.ifCond .eq 7, 3) := by decide +kernel
theorem dX8_isLetter_27 : decode cX8_isLetter 27 = .ok (.iconst 1, 1) := by decide +kernel
theorem dX8_isLetter_28 : decode cX8_isLetter 28 = .ok (.goto 4, 3) := by decide +kernel
theorem dX8_isLetter_31 : decode cX8_isLetter 31 = .ok (.iconst 0, 1) := by decide +kernel
theorem dX8_isLetter_32 : decode cX8_isLetter 32 = .ok (.ireturn, 1) := by decide +kernel
theorem dX8_isDigit_0 : decode cX8_isDigit 0 = .ok (.iload_n 1, 1) := by decide +kernel
theorem dX8_isDigit_1 : decode cX8_isDigit 1 = .ok (.aload_n 0, 1) := by decide +kernel
theorem dX8_isDigit_2 : decode cX8_isDigit 2 = .ok (.getfield 195, 3) := by decide +kernel
theorem dX8_isDigit_5 : decode cX8_isDigit 5 = .ok (.if_icmp .ge 26, 3) := by decide +kernel
theorem dX8_isDigit_8 : decode cX8_isDigit 8 = .ok (.aload_n 0, 1) := by decide +kernel
theorem dX8_isDigit_9 : decode cX8_isDigit 9 = .ok (.getfield 56, 3) := by decide +kernel
theorem dX8_isDigit_12 : decode cX8_isDigit 12 = .ok (.iload_n 1, 1) := by decide +kernel
theorem dX8_isDigit_13 : decode cX8_isDigit 13 = .ok (.iaload, 1) := by decide +kernel
theorem dX8_isDigit_14 : decode cX8_isDigit 14 = .ok (.i2l, 1) := by decide +kernel
theorem dX8_isDigit_15 : decode cX8_isDigit 15 = .ok (.ldc2_w 202, 3) := by decide +kernel
theorem dX8_isDigit_18 : decode cX8_isDigit 18 = .ok (.ldc2_w 204, 3) := by decide +kernel
theorem dX8_isDigit_21 : decode cX8_isDigit 21 = .ok (.invokestatic 75, 3) := by decide +kernel
