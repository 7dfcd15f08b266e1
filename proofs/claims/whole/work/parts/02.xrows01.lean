theorem dX6_wipe_8 : decode cX6_wipe 8 = .ok (.aload_n 0, 1) := by decide +kernel
theorem dX6_wipe_9 : decode cX6_wipe 9 = .ok (.getfield 33, 3) := by decide +kernel
theorem dX6_wipe_12 : decode cX6_wipe 12 = .ok (.iconst 0, 1) := by decide +kernel
theorem dX6_wipe_13 : decode cX6_wipe 13 = .ok (.putfield 217, 3) := by decide +kernel
theorem dX6_wipe_16 : decode cX6_wipe 16 = .ok (.iload_n 1, 1) := by decide +kernel
theorem dX6_wipe_17 : decode cX6_wipe 17 = .ok (.ireturn, 1) := by decide +kernel
theorem dX6_text_0 : decode cX6_text 0 = .ok (.aload_n 0, 1) := by decide +kernel
theorem dX6_text_1 : decode cX6_text 1 = .ok (.getfield 25, 3) := by decide +kernel
theorem dX6_text_4 : decode cX6_text 4 = .ok (.aload_n 0, 1) := by decide +kernel
theorem dX6_text_5 : decode cX6_text 5 = .ok (.invokevirtual 165, 3) := by decide +kernel
theorem dX6_text_8 : decode cX6_text 8 = .ok (.invokevirtual 226, 3) := by decide +kernel
theorem dX6_text_11 : decode cX6_text 11 = .ok (.istore_n 1, 1) := by decide +kernel
theorem dX6_text_12 : decode cX6_text 12 = .ok (.aload_n 0, 1) := by decide +kernel
theorem dX6_text_13 : decode cX6_text 13 = .ok (.getfield 33, 3) := by decide +kernel
theorem dX6_text_16 : decode cX6_text 16 = .ok (.iconst 0, 1) := by decide +kernel
theorem dX6_text_17 : decode cX6_text 17 = .ok (.putfield 217, 3) := by decide +kernel
theorem dX6_text_20 : decode cX6_text 20 = .ok (.iload_n 1, 1) := by decide +kernel
theorem dX6_text_21 : decode cX6_text 21 = .ok (.ifCond .lt 14, 3) := by decide +kernel
theorem dX6_text_24 : decode cX6_text 24 = .ok (.aload_n 0, 1) := by decide +kernel
theorem dX6_text_25 : decode cX6_text 25 = .ok (.getfield 12, 3) := by decide +kernel
theorem dX6_text_28 : decode cX6_text 28 = .ok (.aload_n 0, 1) := by decide +kernel
theorem dX6_text_29 : decode cX6_text 29 = .ok (.getfield 19, 3) := by decide +kernel
theorem dX6_text_32 : decode cX6_text 32 = .ok (.invokevirtual 230, 3) := by decide +kernel
theorem dX6_text_35 : decode cX6_text 35 = .ok (.iload_n 1, 1) := by decide +kernel
theorem dX6_text_36 : decode cX6_text 36 = .ok (.ireturn, 1) := by decide +kernel
theorem dX6_hold_0 : decode cX6_hold 0 = .ok (.iload_n 1, 1) := by decide +kernel
theorem dX6_hold_1 : decode cX6_hold 1 = .ok (.invokestatic 234, 3) := by decide +kernel
theorem dX6_hold_4 : decode cX6_hold 4 = .ok (.ifCond .eq 22, 3) := by decide +kernel
theorem dX6_hold_7 : decode cX6_hold 7 = .ok (.iload_n 2, 1) := by decide +kernel
theorem dX6_hold_8 : decode cX6_hold 8 = .ok (.iconst (-1), 1) := by decide +kernel
theorem dX6_hold_9 : decode cX6_hold 9 = .ok (.if_icmp .eq 24, 3) := by decide +kernel
theorem dX6_hold_12 : decode cX6_hold 12 = .ok (.aload_n 0, 1) := by decide +kernel
theorem dX6_hold_13 : decode cX6_hold 13 = .ok (.getfield 12, 3) := by decide +kernel
theorem dX6_hold_16 : decode cX6_hold 16 = .ok (.getfield 61, 3) := by decide +kernel
theorem dX6_hold_19 : decode cX6_hold 19 = .ok (.iload_n 2, 1) := by decide +kernel
theorem dX6_hold_20 : decode cX6_hold 20 = .ok (.invokevirtual 80, 3) := by decide +kernel
theorem dX6_hold_23 : decode cX6_hold 23 = .ok (.ifCond .ne 10, 3) := by decide +kernel
theorem dX6_hold_26 : decode cX6_hold 26 = .ok (.aload_n 0, 1) := by decide +kernel
theorem dX6_hold_27 : decode cX6_hold 27 = .ok (.ldc 56, 2) := by decide +kernel
theorem dX6_hold_29 : decode cX6_hold 29 = .ok (.invokevirtual 57, 3) := by decide +kernel
theorem dX6_hold_32 : decode cX6_hold 32 = .ok (.ireturn, 1) := by decide +kernel
theorem dX6_hold_33 : decode cX6_hold 33 = .ok (.aload_n 0, 1) := by decide +kernel
theorem dX6_hold_34 : decode cX6_hold 34 = .ok (.getfield 12, 3) := by decide +kernel
theorem dX6_hold_37 : decode cX6_hold 37 = .ok (.getfield 237, 3) := by decide +kernel
theorem dX6_hold_40 : decode cX6_hold 40 = .ok (.iload_n 1, 1) := by decide +kernel
theorem dX6_hold_41 : decode cX6_hold 41 = .ok (.iload_n 2, 1) := by decide +kernel
theorem dX6_hold_42 : decode cX6_hold 42 = .ok (.iastore, 1) := by decide +kernel
theorem dX6_hold_43 : decode cX6_hold 43 = .ok (.iconst 1, 1) := by decide +kernel
theorem dX6_hold_44 : decode cX6_hold 44 = .ok (.ireturn, 1) := by decide +kernel
theorem dX6_as_0 : decode cX6_as 0 = .ok (.iload_n 1, 1) := by decide +kernel
theorem dX6_as_1 : decode cX6_as 1 = .ok (.invokestatic 234, 3) := by decide +kernel
theorem dX6_as_4 : decode cX6_as 4 = .ok (.ifCond .eq 10, 3) := by decide +kernel
theorem dX6_as_7 : decode cX6_as 7 = .ok (.iload_n 2, 1) := by decide +kernel
theorem dX6_as_8 : decode cX6_as 8 = .ok (.invokestatic 45, 3) := by decide +kernel
theorem dX6_as_11 : decode cX6_as 11 = .ok (.ifCond .ne 10, 3) := by decide +kernel
theorem dX6_as_14 : decode cX6_as 14 = .ok (.aload_n 0, 1) := by decide +kernel
theorem dX6_as_15 : decode cX6_as 15 = .ok (.ldc 56, 2) := by decide +kernel
theorem dX6_as_17 : decode cX6_as 17 = .ok (.invokevirtual 57, 3) := by decide +kernel
theorem dX6_as_20 : decode cX6_as 20 = .ok (.ireturn, 1) := by decide +kernel
theorem dX6_as_21 : decode cX6_as 21 = .ok (.aload_n 0, 1) := by decide +kernel
theorem dX6_as_22 : decode cX6_as 22 = .ok (.getfield 12, 3) := by decide +kernel
theorem dX6_as_25 : decode cX6_as 25 = .ok (.getfield 237, 3) := by decide +kernel
theorem dX6_as_28 : decode cX6_as 28 = .ok (.iload_n 1, 1) := by decide +kernel
theorem dX6_as_29 : decode cX6_as 29 = .ok (.iaload, 1) := by decide +kernel
theorem dX6_as_30 : decode cX6_as 30 = .ok (.istore_n 3, 1) := by decide +kernel
theorem dX6_as_31 : decode cX6_as 31 = .ok (.aload_n 0, 1) := by decide +kernel
theorem dX6_as_32 : decode cX6_as 32 = .ok (.getfield 12, 3) := by decide +kernel
theorem dX6_as_35 : decode cX6_as 35 = .ok (.getfield 61, 3) := by decide +kernel
theorem dX6_as_38 : decode cX6_as 38 = .ok (.iload_n 3, 1) := by decide +kernel
theorem dX6_as_39 : decode cX6_as 39 = .ok (.invokevirtual 80, 3) := by decide +kernel
theorem dX6_as_42 : decode cX6_as 42 = .ok (.ifCond .ne 10, 3) := by decide +kernel
theorem dX6_as_45 : decode cX6_as 45 = .ok (.aload_n 0, 1) := by decide +kernel
theorem dX6_as_46 : decode cX6_as 46 = .ok (.ldc 240, 2) := by decide +kernel
theorem dX6_as_48 : decode cX6_as 48 = .ok (.invokevirtual 57, 3) := by decide +kernel
theorem dX6_as_51 : decode cX6_as 51 = .ok (.ireturn, 1) := by decide +kernel
theorem dX6_as_52 : decode cX6_as 52 = .ok (.aload_n 0, 1) := by decide +kernel
theorem dX6_as_53 : decode cX6_as 53 = .ok (.getfield 12, 3) := by decide +kernel
theorem dX6_as_56 : decode cX6_as 56 = .ok (.getfield 61, 3) := by decide +kernel
theorem dX6_as_59 : decode cX6_as 59 = .ok (.getfield 83, 3) := by decide +kernel
theorem dX6_as_62 : decode cX6_as 62 = .ok (.iload_n 3, 1) := by decide +kernel
theorem dX6_as_63 : decode cX6_as 63 = .ok (.iaload, 1) := by decide +kernel
theorem dX6_as_64 : decode cX6_as 64 = .ok (.iload_n 2, 1) := by decide +kernel
theorem dX6_as_65 : decode cX6_as 65 = .ok (.invokestatic 241, 3) := by decide +kernel
theorem dX6_as_68 : decode cX6_as 68 = .ok (.ifCond .eq 7, 3) := by decide +kernel
theorem dX6_as_71 : decode cX6_as 71 = .ok (.iload_n 3, 1) := by decide +kernel
theorem dX6_as_72 : decode cX6_as 72 = .ok (.goto 9, 3) := by decide +kernel
theorem dX6_as_75 : decode cX6_as 75 = .ok (.aload_n 0, 1) := by decide +kernel
theorem dX6_as_76 : decode cX6_as 76 = .ok (.ldc 245, 2) := by decide +kernel
theorem dX6_as_78 : decode cX6_as 78 = .ok (.invokevirtual 57, 3) := by decide +kernel
theorem dX6_as_81 : decode cX6_as 81 = .ok (.ireturn, 1) := by decide +kernel
theorem dX6_sheet_0 : decode cX6_sheet 0 = .ok (.iload_n 1, 1) := by decide +kernel
theorem dX6_sheet_1 : decode cX6_sheet 1 = .ok (.invokestatic 246, 3) := by decide +kernel
theorem dX6_sheet_4 : decode cX6_sheet 4 = .ok (.ifCond .eq 25, 3) := by decide +kernel
theorem dX6_sheet_7 : decode cX6_sheet 7 = .ok (.iload_n 2, 1) := by decide +kernel
theorem dX6_sheet_8 : decode cX6_sheet 8 = .ok (.ifCond .eq 28, 3) := by decide +kernel
theorem dX6_sheet_11 : decode cX6_sheet 11 = .ok (.iload_n 2, 1) := by decide +kernel
theorem dX6_sheet_12 : decode cX6_sheet 12 = .ok (.bipush 8, 2) := by decide +kernel
theorem dX6_sheet_14 : decode cX6_sheet 14 = .ok (.if_icmp .eq 22, 3) := by decide +kernel
theorem dX6_sheet_17 : decode cX6_sheet 17 = .ok (.iload_n 2, 1) := by decide +kernel
theorem dX6_sheet_18 : decode cX6_sheet 18 = .ok (.bipush 16, 2) := by decide +kernel
theorem dX6_sheet_20 : decode cX6_sheet 20 = .ok (.if_icmp .eq 16, 3) := by decide +kernel
theorem dX6_sheet_23 : decode cX6_sheet 23 = .ok (.iload_n 2, 1) := by decide +kernel
theorem dX6_sheet_24 : decode cX6_sheet 24 = .ok (.bipush 32, 2) := by decide +kernel
theorem dX6_sheet_26 : decode cX6_sheet 26 = .ok (.if_icmp .eq 10, 3) := by decide +kernel
theorem dX6_sheet_29 : decode cX6_sheet 29 = .ok (.aload_n 0, 1) := by decide +kernel
theorem dX6_sheet_30 : decode cX6_sheet 30 = .ok (.ldc 56, 2) := by decide +kernel
theorem dX6_sheet_32 : decode cX6_sheet 32 = .ok (.invokevirtual 57, 3) := by decide +kernel
theorem dX6_sheet_35 : decode cX6_sheet 35 = .ok (.ireturn, 1) := by decide +kernel
theorem dX6_sheet_36 : decode cX6_sheet 36 = .ok (.iload_n 3, 1) := by decide +kernel
theorem dX6_sheet_37 : decode cX6_sheet 37 = .ok (.ifCond .ge 10, 3) := by decide +kernel
theorem dX6_sheet_40 : decode cX6_sheet 40 = .ok (.aload_n 0, 1) := by decide +kernel
theorem dX6_sheet_41 : decode cX6_sheet 41 = .ok (.ldc 249, 2) := by decide +kernel
theorem dX6_sheet_43 : decode cX6_sheet 43 = .ok (.invokevirtual 57, 3) := by decide +kernel
theorem dX6_sheet_46 : decode cX6_sheet 46 = .ok (.ireturn, 1) := by decide +kernel
theorem dX6_sheet_47 : decode cX6_sheet 47 = .ok (.iload_n 3, 1) := by decide +kernel
theorem dX6_sheet_48 : decode cX6_sheet 48 = .ok (.bipush 40, 2) := by decide +kernel
theorem dX6_sheet_50 : decode cX6_sheet 50 = .ok (.if_icmp .le 10, 3) := by decide +kernel
theorem dX6_sheet_53 : decode cX6_sheet 53 = .ok (.aload_n 0, 1) := by decide +kernel
theorem dX6_sheet_54 : decode cX6_sheet 54 = .ok (.ldc 56, 2) := by decide +kernel
theorem dX6_sheet_56 : decode cX6_sheet 56 = .ok (.invokevirtual 57, 3) := by decide +kernel
theorem dX6_sheet_59 : decode cX6_sheet 59 = .ok (.ireturn, 1) := by decide +kernel
theorem dX6_sheet_60 : decode cX6_sheet 60 = .ok (.aload_n 0, 1) := by decide +kernel
theorem dX6_sheet_61 : decode cX6_sheet 61 = .ok (.getfield 36, 3) := by decide +kernel
theorem dX6_sheet_64 : decode cX6_sheet 64 = .ok (.iload_n 1, 1) := by decide +kernel
theorem dX6_sheet_65 : decode cX6_sheet 65 = .ok (.aaload, 1) := by decide +kernel
theorem dX6_sheet_66 : decode cX6_sheet 66 = .ok (.iload_n 2, 1) := by decide +kernel
theorem dX6_sheet_67 : decode cX6_sheet 67 = .ok (.iload_n 3, 1) := by decide +kernel
theorem dX6_sheet_68 : decode cX6_sheet 68 = .ok (.invokevirtual 250, 3) := by decide +kernel
theorem dX6_sheet_71 : decode cX6_sheet 71 = .ok (.ireturn, 1) := by decide +kernel
theorem dX6_write_0 : decode cX6_write 0 = .ok (.iload_n 1, 1) := by decide +kernel
theorem dX6_write_1 : decode cX6_write 1 = .ok (.invokestatic 246, 3) := by decide +kernel
theorem dX6_write_4 : decode cX6_write 4 = .ok (.ifCond .ne 10, 3) := by decide +kernel
theorem dX6_write_7 : decode cX6_write 7 = .ok (.aload_n 0, 1) := by decide +kernel
theorem dX6_write_8 : decode cX6_write 8 = .ok (.ldc 56, 2) := by decide +kernel
theorem dX6_write_10 : decode cX6_write 10 = .ok (.invokevirtual 57, 3) := by decide +kernel
theorem dX6_write_13 : decode cX6_write 13 = .ok (.ireturn, 1) := by decide +kernel
theorem dX6_write_14 : decode cX6_write 14 = .ok (.aload_n 0, 1) := by decide +kernel
theorem dX6_write_15 : decode cX6_write 15 = .ok (.getfield 36, 3) := by decide +kernel
theorem dX6_write_18 : decode cX6_write 18 = .ok (.iload_n 1, 1) := by decide +kernel
theorem dX6_write_19 : decode cX6_write 19 = .ok (.aaload, 1) := by decide +kernel
theorem dX6_write_20 : decode cX6_write 20 = .ok (.astore 4, 2) := by decide +kernel
theorem dX6_write_22 : decode cX6_write 22 = .ok (.aload 4, 2) := by decide +kernel
theorem dX6_write_24 : decode cX6_write 24 = .ok (.invokevirtual 253, 3) := by decide +kernel
theorem dX6_write_27 : decode cX6_write 27 = .ok (.ifCond .eq 10, 3) := by decide +kernel
theorem dX6_write_30 : decode cX6_write 30 = .ok (.aload_n 0, 1) := by decide +kernel
theorem dX6_write_31 : decode cX6_write 31 = .ok (.ldc 240, 2) := by decide +kernel
theorem dX6_write_33 : decode cX6_write 33 = .ok (.invokevirtual 57, 3) := by decide +kernel
theorem dX6_write_36 : decode cX6_write 36 = .ok (.ireturn, 1) := by decide +kernel
theorem dX6_write_37 : decode cX6_write 37 = .ok (.iload_n 2, 1) := by decide +kernel
theorem dX6_write_38 : decode cX6_write 38 = .ok (.iconst 0, 1) := by decide +kernel
theorem dX6_write_39 : decode cX6_write 39 = .ok (.aload 4, 2) := by decide +kernel
theorem dX6_write_41 : decode cX6_write 41 = .ok (.getfield 256, 3) := by decide +kernel
theorem dX6_write_44 : decode cX6_write 44 = .ok (.iconst 1, 1) := by decide +kernel
theorem dX6_write_45 : decode cX6_write 45 = .ok (.isub, 1) := by decide +kernel
theorem dX6_write_46 : decode cX6_write 46 = .ok (.invokestatic 52, 3) := by decide +kernel
theorem dX6_write_49 : decode cX6_write 49 = .ok (.ifCond .ne 10, 3) := by decide +kernel
theorem dX6_write_52 : decode cX6_write 52 = .ok (.aload_n 0, 1) := by decide +kernel
theorem dX6_write_53 : decode cX6_write 53 = .ok (.ldc 56, 2) := by decide +kernel
theorem dX6_write_55 : decode cX6_write 55 = .ok (.invokevirtual 57, 3) := by decide +kernel
theorem dX6_write_58 : decode cX6_write 58 = .ok (.ireturn, 1) := by decide +kernel
theorem dX6_write_59 : decode cX6_write 59 = .ok (.aload 4, 2) := by decide +kernel
theorem dX6_write_61 : decode cX6_write 61 = .ok (.iload_n 2, 1) := by decide +kernel
theorem dX6_write_62 : decode cX6_write 62 = .ok (.iload_n 3, 1) := by decide +kernel
theorem dX6_write_63 : decode cX6_write 63 = .ok (.invokevirtual 257, 3) := by decide +kernel
theorem dX6_write_66 : decode cX6_write 66 = .ok (.iconst 1, 1) := by decide +kernel
theorem dX6_write_67 : decode cX6_write 67 = .ok (.ireturn, 1) := by decide +kernel
theorem dX6_copy_0 : decode cX6_copy 0 = .ok (.iload_n 1, 1) := by decide +kernel
theorem dX6_copy_1 : decode cX6_copy 1 = .ok (.invokestatic 246, 3) := by decide +kernel
theorem dX6_copy_4 : decode cX6_copy 4 = .ok (.ifCond .eq 10, 3) := by decide +kernel
theorem dX6_copy_7 : decode cX6_copy 7 = .ok (.iload_n 3, 1) := by decide +kernel
theorem dX6_copy_8 : decode cX6_copy 8 = .ok (.invokestatic 246, 3) := by decide +kernel
theorem dX6_copy_11 : decode cX6_copy 11 = .ok (.ifCond .ne 10, 3) := by decide +kernel
theorem dX6_copy_14 : decode cX6_copy 14 = .ok (.aload_n 0, 1) := by decide +kernel
theorem dX6_copy_15 : decode cX6_copy 15 = .ok (.ldc 56, 2) := by decide +kernel
theorem dX6_copy_17 : decode cX6_copy 17 = .ok (.invokevirtual 57, 3) := by decide +kernel
theorem dX6_copy_20 : decode cX6_copy 20 = .ok (.ireturn, 1) := by decide +kernel
theorem dX6_copy_21 : decode cX6_copy 21 = .ok (.aload_n 0, 1) := by decide +kernel
theorem dX6_copy_22 : decode cX6_copy 22 = .ok (.getfield 36, 3) := by decide +kernel
theorem dX6_copy_25 : decode cX6_copy 25 = .ok (.iload_n 1, 1) := by decide +kernel
theorem dX6_copy_26 : decode cX6_copy 26 = .ok (.aaload, 1) := by decide +kernel
theorem dX6_copy_27 : decode cX6_copy 27 = .ok (.astore 6, 2) := by decide +kernel
theorem dX6_copy_29 : decode cX6_copy 29 = .ok (.aload_n 0, 1) := by decide +kernel
theorem dX6_copy_30 : decode cX6_copy 30 = .ok (.getfield 36, 3) := by decide +kernel
theorem dX6_copy_33 : decode cX6_copy 33 = .ok (.iload_n 3, 1) := by decide +kernel
theorem dX6_copy_34 : decode cX6_copy 34 = .ok (.aaload, 1) := by decide +kernel
theorem dX6_copy_35 : decode cX6_copy 35 = .ok (.astore 7, 2) := by decide +kernel
theorem dX6_copy_37 : decode cX6_copy 37 = .ok (.aload 6, 2) := by decide +kernel
theorem dX6_copy_39 : decode cX6_copy 39 = .ok (.invokevirtual 253, 3) := by decide +kernel
theorem dX6_copy_42 : decode cX6_copy 42 = .ok (.ifCond .ne 11, 3) := by decide +kernel
theorem dX6_copy_45 : decode cX6_copy 45 = .ok (.aload 7, 2) := by decide +kernel
theorem dX6_copy_47 : decode cX6_copy 47 = .ok (.invokevirtual 253, 3) := by decide +kernel
theorem dX6_copy_50 : decode cX6_copy 50 = .ok (.ifCond .eq 10, 3) := by decide +kernel
theorem dX6_copy_53 : decode cX6_copy 53 = .ok (.aload_n 0, 1) := by decide +kernel
theorem dX6_copy_54 : decode cX6_copy 54 = .ok (.ldc 240, 2) := by decide +kernel
theorem dX6_copy_56 : decode cX6_copy 56 = .ok (.invokevirtual 57, 3) := by decide +kernel
theorem dX6_copy_59 : decode cX6_copy 59 = .ok (.ireturn, 1) := by decide +kernel
theorem dX6_copy_60 : decode cX6_copy 60 = .ok (.aload 6, 2) := by decide +kernel
theorem dX6_copy_62 : decode cX6_copy 62 = .ok (.getfield 261, 3) := by decide +kernel
theorem dX6_copy_65 : decode cX6_copy 65 = .ok (.aload 7, 2) := by decide +kernel
theorem dX6_copy_67 : decode cX6_copy 67 = .ok (.getfield 261, 3) := by decide +kernel
theorem dX6_copy_70 : decode cX6_copy 70 = .ok (.if_icmp .eq 10, 3) := by decide +kernel
theorem dX6_copy_73 : decode cX6_copy 73 = .ok (.aload_n 0, 1) := by decide +kernel
theorem dX6_copy_74 : decode cX6_copy 74 = .ok (.ldc 245, 2) := by decide +kernel
theorem dX6_copy_76 : decode cX6_copy 76 = .ok (.invokevirtual 57, 3) := by decide +kernel
theorem dX6_copy_79 : decode cX6_copy 79 = .ok (.ireturn, 1) := by decide +kernel
theorem dX6_copy_80 : decode cX6_copy 80 = .ok (.aload 6, 2) := by decide +kernel
theorem dX6_copy_82 : decode cX6_copy 82 = .ok (.iload_n 2, 1) := by decide +kernel
theorem dX6_copy_83 : decode cX6_copy 83 = .ok (.iload 5, 2) := by decide +kernel
theorem dX6_copy_85 : decode cX6_copy 85 = .ok (.invokevirtual 264, 3) := by decide +kernel
theorem dX6_copy_88 : decode cX6_copy 88 = .ok (.ifCond .eq 15, 3) := by decide +kernel
theorem dX6_copy_91 : decode cX6_copy 91 = .ok (.aload 7, 2) := by decide +kernel
theorem dX6_copy_93 : decode cX6_copy 93 = .ok (.iload 4, 2) := by decide +kernel
theorem dX6_copy_95 : decode cX6_copy 95 = .ok (.iload 5, 2) := by decide +kernel
theorem dX6_copy_97 : decode cX6_copy 97 = .ok (.invokevirtual 264, 3) := by decide +kernel
theorem dX6_copy_100 : decode cX6_copy 100 = .ok (.ifCond .ne 10, 3) := by decide +kernel
theorem dX6_copy_103 : decode cX6_copy 103 = .ok (.aload_n 0, 1) := by decide +kernel
theorem dX6_copy_104 : decode cX6_copy 104 = .ok (.ldc 56, 2) := by decide +kernel
theorem dX6_copy_106 : decode cX6_copy 106 = .ok (.invokevirtual 57, 3) := by decide +kernel
theorem dX6_copy_109 : decode cX6_copy 109 = .ok (.ireturn, 1) := by decide +kernel
theorem dX6_copy_110 : decode cX6_copy 110 = .ok (.aload 6, 2) := by decide +kernel
theorem dX6_copy_112 : decode cX6_copy 112 = .ok (.getfield 267, 3) := by decide +kernel
theorem dX6_copy_115 : decode cX6_copy 115 = .ok (.iload_n 2, 1) := by decide +kernel
theorem dX6_copy_116 : decode cX6_copy 116 = .ok (.aload 7, 2) := by decide +kernel
theorem dX6_copy_118 : decode cX6_copy 118 = .ok (.getfield 267, 3) := by decide +kernel
theorem dX6_copy_121 : decode cX6_copy 121 = .ok (.iload 4, 2) := by decide +kernel
theorem dX6_copy_123 : decode cX6_copy 123 = .ok (.iload 5, 2) := by decide +kernel
theorem dX6_copy_125 : decode cX6_copy 125 = .ok (.invokestatic 270, 3) := by decide +kernel
theorem dX6_copy_128 : decode cX6_copy 128 = .ok (.iload 5, 2) := by decide +kernel
theorem dX6_copy_130 : decode cX6_copy 130 = .ok (.ireturn, 1) := by decide +kernel
theorem dX6_load_0 : decode cX6_load 0 = .ok (.iload_n 1, 1) := by decide +kernel
theorem dX6_load_1 : decode cX6_load 1 = .ok (.invokestatic 246, 3) := by decide +kernel
theorem dX6_load_4 : decode cX6_load 4 = .ok (.ifCond .ne 10, 3) := by decide +kernel
theorem dX6_load_7 : decode cX6_load 7 = .ok (.aload_n 0, 1) := by decide +kernel
theorem dX6_load_8 : decode cX6_load 8 = .ok (.ldc 56, 2) := by decide +kernel
theorem dX6_load_10 : decode cX6_load 10 = .ok (.invokevirtual 57, 3) := by decide +kernel
theorem dX6_load_13 : decode cX6_load 13 = .ok (.ireturn, 1) := by decide +kernel
theorem dX6_load_14 : decode cX6_load 14 = .ok (.aload_n 0, 1) := by decide +kernel
theorem dX6_load_15 : decode cX6_load 15 = .ok (.getfield 36, 3) := by decide +kernel
theorem dX6_load_18 : decode cX6_load 18 = .ok (.iload_n 1, 1) := by decide +kernel
theorem dX6_load_19 : decode cX6_load 19 = .ok (.aaload, 1) := by decide +kernel
theorem dX6_load_20 : decode cX6_load 20 = .ok (.astore_n 2, 1) := by decide +kernel
theorem dX6_load_21 : decode cX6_load 21 = .ok (.aload_n 2, 1) := by decide +kernel
theorem dX6_load_22 : decode cX6_load 22 = .ok (.invokevirtual 253, 3) := by decide +kernel
theorem dX6_load_25 : decode cX6_load 25 = .ok (.ifCond .eq 10, 3) := by decide +kernel
theorem dX6_load_28 : decode cX6_load 28 = .ok (.aload_n 0, 1) := by decide +kernel
theorem dX6_load_29 : decode cX6_load 29 = .ok (.ldc 240, 2) := by decide +kernel
theorem dX6_load_31 : decode cX6_load 31 = .ok (.invokevirtual 57, 3) := by decide +kernel
theorem dX6_load_34 : decode cX6_load 34 = .ok (.ireturn, 1) := by decide +kernel
theorem dX6_load_35 : decode cX6_load 35 = .ok (.aload_n 2, 1) := by decide +kernel
theorem dX6_load_36 : decode cX6_load 36 = .ok (.getfield 256, 3) := by decide +kernel
theorem dX6_load_39 : decode cX6_load 39 = .ok (.aload_n 0, 1) := by decide +kernel
theorem dX6_load_40 : decode cX6_load 40 = .ok (.getfield 12, 3) := by decide +kernel
theorem dX6_load_43 : decode cX6_load 43 = .ok (.getfield 61, 3) := by decide +kernel
theorem dX6_load_46 : decode cX6_load 46 = .ok (.getfield 188, 3) := by decide +kernel
theorem dX6_load_49 : decode cX6_load 49 = .ok (.invokestatic 276, 3) := by decide +kernel
theorem dX6_load_52 : decode cX6_load 52 = .ok (.istore_n 3, 1) := by decide +kernel
theorem dX6_load_53 : decode cX6_load 53 = .ok (.iconst 0, 1) := by decide +kernel
theorem dX6_load_54 : decode cX6_load 54 = .ok (.istore 4, 2) := by decide +kernel
theorem dX6_load_56 : decode cX6_load 56 = .ok (.iload 4, 2) := by decide +kernel
theorem dX6_load_58 : decode cX6_load 58 = .ok (.iload_n 3, 1) := by decide +kernel
theorem dX6_load_59 : decode cX6_load 59 = .ok (.if_icmp .ge 60, 3) := by decide +kernel
theorem dX6_load_62 : decode cX6_load 62 = .ok (.aload_n 2, 1) := by decide +kernel
theorem dX6_load_63 : decode cX6_load 63 = .ok (.getfield 267, 3) := by decide +kernel
theorem dX6_load_66 : decode cX6_load 66 = .ok (.iload 4, 2) := by decide +kernel
theorem dX6_load_68 : decode cX6_load 68 = .ok (.iaload, 1) := by decide +kernel
theorem dX6_load_69 : decode cX6_load 69 = .ok (.iconst 1, 1) := by decide +kernel
theorem dX6_load_70 : decode cX6_load 70 = .ok (.bipush 99, 2) := by decide +kernel
theorem dX6_load_72 : decode cX6_load 72 = .ok (.invokestatic 52, 3) := by decide +kernel
theorem dX6_load_75 : decode cX6_load 75 = .ok (.ifCond .eq 44, 3) := by decide +kernel
theorem dX6_load_78 : decode cX6_load 78 = .ok (.aload_n 0, 1) := by decide +kernel
theorem dX6_load_79 : decode cX6_load 79 = .ok (.getfield 12, 3) := by decide +kernel
theorem dX6_load_82 : decode cX6_load 82 = .ok (.getfield 61, 3) := by decide +kernel
theorem dX6_load_85 : decode cX6_load 85 = .ok (.iload 4, 2) := by decide +kernel
theorem dX6_load_87 : decode cX6_load 87 = .ok (.invokevirtual 92, 3) := by decide +kernel
theorem dX6_load_90 : decode cX6_load 90 = .ok (.ifCond .ne 23, 3) := by decide +kernel
theorem dX6_load_93 : decode cX6_load 93 = .ok (.aload_n 0, 1) := by decide +kernel
theorem dX6_load_94 : decode cX6_load 94 = .ok (.getfield 12, 3) := by decide +kernel
theorem dX6_load_97 : decode cX6_load 97 = .ok (.getfield 61, 3) := by decide +kernel
theorem dX6_load_100 : decode cX6_load 100 = .ok (.getfield 89, 3) := by decide +kernel
theorem dX6_load_103 : decode cX6_load 103 = .ok (.iload 4, 2) := by decide +kernel
theorem dX6_load_105 : decode cX6_load 105 = .ok (.aload_n 2, 1) := by decide +kernel
theorem dX6_load_106 : decode cX6_load 106 = .ok (.getfield 267, 3) := by decide +kernel
theorem dX6_load_109 : decode cX6_load 109 = .ok (.iload 4, 2) := by decide +kernel
theorem dX6_load_111 : decode cX6_load 111 = .ok (.iaload, 1) := by decide +kernel
theorem dX6_load_112 : decode cX6_load 112 = .ok (.iastore, 1) := by decide +kernel
theorem dX6_load_113 : decode cX6_load 113 = .ok (.iinc 4 1, 3) := by decide +kernel
theorem dX6_load_116 : decode cX6_load 116 = .ok (.goto (-60), 3) := by decide +kernel
theorem dX6_load_119 : decode cX6_load 119 = .ok (.iload 4, 2) := by decide +kernel
theorem dX6_load_121 : decode cX6_load 121 = .ok (.ireturn, 1) := by decide +kernel
theorem dX6_judge_0 : decode cX6_judge 0 = .ok (.iload_n 1, 1) := by decide +kernel
theorem dX6_judge_1 : decode cX6_judge 1 = .ok (.invokestatic 246, 3) := by decide +kernel
theorem dX6_judge_4 : decode cX6_judge 4 = .ok (.ifCond .ne 10, 3) := by decide +kernel
theorem dX6_judge_7 : decode cX6_judge 7 = .ok (.aload_n 0, 1) := by decide +kernel
theorem dX6_judge_8 : decode cX6_judge 8 = .ok (.ldc 56, 2) := by decide +kernel
theorem dX6_judge_10 : decode cX6_judge 10 = .ok (.invokevirtual 57, 3) := by decide +kernel
theorem dX6_judge_13 : decode cX6_judge 13 = .ok (.ireturn, 1) := by decide +kernel
theorem dX6_judge_14 : decode cX6_judge 14 = .ok (.aload_n 0, 1) := by decide +kernel
theorem dX6_judge_15 : decode cX6_judge 15 = .ok (.getfield 36, 3) := by decide +kernel
theorem dX6_judge_18 : decode cX6_judge 18 = .ok (.iload_n 1, 1) := by decide +kernel
theorem dX6_judge_19 : decode cX6_judge 19 = .ok (.aaload, 1) := by decide +kernel
theorem dX6_judge_20 : decode cX6_judge 20 = .ok (.astore_n 2, 1) := by decide +kernel
theorem dX6_judge_21 : decode cX6_judge 21 = .ok (.aload_n 2, 1) := by decide +kernel
theorem dX6_judge_22 : decode cX6_judge 22 = .ok (.invokevirtual 253, 3) := by decide +kernel
theorem dX6_judge_25 : decode cX6_judge 25 = .ok (.ifCond .eq 10, 3) := by decide +kernel
theorem dX6_judge_28 : decode cX6_judge 28 = .ok (.aload_n 0, 1) := by decide +kernel
theorem dX6_judge_29 : decode cX6_judge 29 = .ok (.ldc 240, 2) := by decide +kernel
theorem dX6_judge_31 : decode cX6_judge 31 = .ok (.invokevirtual 57, 3) := by decide +kernel
theorem dX6_judge_34 : decode cX6_judge 34 = .ok (.ireturn, 1) := by decide +kernel
theorem dX6_judge_35 : decode cX6_judge 35 = .ok (.aload_n 0, 1) := by decide +kernel
theorem dX6_judge_36 : decode cX6_judge 36 = .ok (.getfield 12, 3) := by decide +kernel
theorem dX6_judge_39 : decode cX6_judge 39 = .ok (.getfield 61, 3) := by decide +kernel
theorem dX6_judge_42 : decode cX6_judge 42 = .ok (.astore_n 3, 1) := by decide +kernel
theorem dX6_judge_43 : decode cX6_judge 43 = .ok (.lconst 0, 1) := by decide +kernel
theorem dX6_judge_44 : decode cX6_judge 44 = .ok (.lstore 4, 2) := by decide +kernel
theorem dX6_judge_46 : decode cX6_judge 46 = .ok (.iconst 0, 1) := by decide +kernel
theorem dX6_judge_47 : decode cX6_judge 47 = .ok (.istore 6, 2) := by decide +kernel
theorem dX6_judge_49 : decode cX6_judge 49 = .ok (.iload 6, 2) := by decide +kernel
theorem dX6_judge_51 : decode cX6_judge 51 = .ok (.aload_n 2, 1) := by decide +kernel
theorem dX6_judge_52 : decode cX6_judge 52 = .ok (.getfield 256, 3) := by decide +kernel
theorem dX6_judge_55 : decode cX6_judge 55 = .ok (.if_icmp .ge 54, 3) := by decide +kernel
theorem dX6_judge_58 : decode cX6_judge 58 = .ok (.aload_n 2, 1) := by decide +kernel
theorem dX6_judge_59 : decode cX6_judge 59 = .ok (.getfield 267, 3) := by decide +kernel
theorem dX6_judge_62 : decode cX6_judge 62 = .ok (.iload 6, 2) := by decide +kernel
theorem dX6_judge_64 : decode cX6_judge 64 = .ok (.iaload, 1) := by decide +kernel
theorem dX6_judge_65 : decode cX6_judge 65 = .ok (.istore 7, 2) := by decide +kernel
theorem dX6_judge_67 : decode cX6_judge 67 = .ok (.aload_n 3, 1) := by decide +kernel
theorem dX6_judge_68 : decode cX6_judge 68 = .ok (.iload 7, 2) := by decide +kernel
theorem dX6_judge_70 : decode cX6_judge 70 = .ok (.invokevirtual 80, 3) := by decide +kernel
theorem dX6_judge_73 : decode cX6_judge 73 = .ok (.ifCond .eq 14, 3) := by decide +kernel
theorem dX6_judge_76 : decode cX6_judge 76 = .ok (.aload_n 3, 1) := by decide +kernel
theorem dX6_judge_77 : decode cX6_judge 77 = .ok (.iload 7, 2) := by decide +kernel
theorem dX6_judge_79 : decode cX6_judge 79 = .ok (.lload 4, 2) := by decide +kernel
theorem dX6_judge_81 : decode cX6_judge 81 = .ok (.invokevirtual 281, 3) := by decide +kernel
theorem dX6_judge_84 : decode cX6_judge 84 = .ok (.ifCond .ne 8, 3) := by decide +kernel
theorem dX6_judge_87 : decode cX6_judge 87 = .ok (.iconst 1, 1) := by decide +kernel
theorem dX6_judge_88 : decode cX6_judge 88 = .ok (.iload 6, 2) := by decide +kernel
theorem dX6_judge_90 : decode cX6_judge 90 = .ok (.iadd, 1) := by decide +kernel
theorem dX6_judge_91 : decode cX6_judge 91 = .ok (.ireturn, 1) := by decide +kernel
theorem dX6_judge_92 : decode cX6_judge 92 = .ok (.lload 4, 2) := by decide +kernel
theorem dX6_judge_94 : decode cX6_judge 94 = .ok (.aload_n 3, 1) := by decide +kernel
theorem dX6_judge_95 : decode cX6_judge 95 = .ok (.iload 7, 2) := by decide +kernel
theorem dX6_judge_97 : decode cX6_judge 97 = .ok (.invokevirtual 99, 3) := by decide +kernel
theorem dX6_judge_100 : decode cX6_judge 100 = .ok (.lor, 1) := by decide +kernel
theorem dX6_judge_101 : decode cX6_judge 101 = .ok (.lstore 4, 2) := by decide +kernel
theorem dX6_judge_103 : decode cX6_judge 103 = .ok (.iinc 6 1, 3) := by decide +kernel
theorem dX6_judge_106 : decode cX6_judge 106 = .ok (.goto (-57), 3) := by decide +kernel
theorem dX6_judge_109 : decode cX6_judge 109 = .ok (.lload 4, 2) := by decide +kernel
theorem dX6_judge_111 : decode cX6_judge 111 = .ok (.aload_n 3, 1) := by decide +kernel
theorem dX6_judge_112 : decode cX6_judge 112 = .ok (.invokevirtual 191, 3) := by decide +kernel
theorem dX6_judge_115 : decode cX6_judge 115 = .ok (.lcmp, 1) := by decide +kernel
theorem dX6_judge_116 : decode cX6_judge 116 = .ok (.ifCond .ne 7, 3) := by decide +kernel
theorem dX6_judge_119 : decode cX6_judge 119 = .ok (.iconst 0, 1) := by decide +kernel
theorem dX6_judge_120 : decode cX6_judge 120 = .ok (.goto 5, 3) := by decide +kernel
theorem dX6_judge_123 : decode cX6_judge 123 = .ok (.bipush 41, 2) := by decide +kernel
theorem dX6_judge_125 : decode cX6_judge 125 = .ok (.ireturn, 1) := by decide +kernel
theorem dX6_image_0 : decode cX6_image 0 = .ok (.aload_n 0, 1) := by decide +kernel
theorem dX6_image_1 : decode cX6_image 1 = .ok (.getfield 16, 3) := by decide +kernel
theorem dX6_image_4 : decode cX6_image 4 = .ok (.aload_n 0, 1) := by decide +kernel
theorem dX6_image_5 : decode cX6_image 5 = .ok (.getfield 12, 3) := by decide +kernel
theorem dX6_image_8 : decode cX6_image 8 = .ok (.invokevirtual 230, 3) := by decide +kernel
theorem dX6_image_11 : decode cX6_image 11 = .ok (.aload_n 0, 1) := by decide +kernel
theorem dX6_image_12 : decode cX6_image 12 = .ok (.iconst 1, 1) := by decide +kernel
theorem dX6_image_13 : decode cX6_image 13 = .ok (.putfield 285, 3) := by decide +kernel
theorem dX6_image_16 : decode cX6_image 16 = .ok (.iconst 1, 1) := by decide +kernel
theorem dX6_image_17 : decode cX6_image 17 = .ok (.ireturn, 1) := by decide +kernel
theorem dX6_undo_0 : decode cX6_undo 0 = .ok (.aload_n 0, 1) := by decide +kernel
theorem dX6_undo_1 : decode cX6_undo 1 = .ok (.getfield 285, 3) := by decide +kernel
theorem dX6_undo_4 : decode cX6_undo 4 = .ok (.ifCond .ne 10, 3) := by decide +kernel
theorem dX6_undo_7 : decode cX6_undo 7 = .ok (.aload_n 0, 1) := by decide +kernel
theorem dX6_undo_8 : decode cX6_undo 8 = .ok (.ldc 184, 2) := by decide +kernel
theorem dX6_undo_10 : decode cX6_undo 10 = .ok (.invokevirtual 57, 3) := by decide +kernel
theorem dX6_undo_13 : decode cX6_undo 13 = .ok (.ireturn, 1) := by decide +kernel
theorem dX6_undo_14 : decode cX6_undo 14 = .ok (.aload_n 0, 1) := by decide +kernel
theorem dX6_undo_15 : decode cX6_undo 15 = .ok (.getfield 12, 3) := by decide +kernel
theorem dX6_undo_18 : decode cX6_undo 18 = .ok (.aload_n 0, 1) := by decide +kernel
theorem dX6_undo_19 : decode cX6_undo 19 = .ok (.getfield 16, 3) := by decide +kernel
theorem dX6_undo_22 : decode cX6_undo 22 = .ok (.invokevirtual 230, 3) := by decide +kernel
theorem dX6_undo_25 : decode cX6_undo 25 = .ok (.aload_n 0, 1) := by decide +kernel
theorem dX6_undo_26 : decode cX6_undo 26 = .ok (.getfield 12, 3) := by decide +kernel
theorem dX6_undo_29 : decode cX6_undo 29 = .ok (.getfield 289, 3) := by decide +kernel
theorem dX6_undo_32 : decode cX6_undo 32 = .ok (.ireturn, 1) := by decide +kernel
theorem dX6_tear_0 : decode cX6_tear 0 = .ok (.aload_n 0, 1) := by decide +kernel
theorem dX6_tear_1 : decode cX6_tear 1 = .ok (.getfield 285, 3) := by decide +kernel
theorem dX6_tear_4 : decode cX6_tear 4 = .ok (.ifCond .eq 7, 3) := by decide +kernel
theorem dX6_tear_7 : decode cX6_tear 7 = .ok (.iconst 1, 1) := by decide +kernel
theorem dX6_tear_8 : decode cX6_tear 8 = .ok (.goto 4, 3) := by decide +kernel
theorem dX6_tear_11 : decode cX6_tear 11 = .ok (.iconst 0, 1) := by decide +kernel
theorem dX6_tear_12 : decode cX6_tear 12 = .ok (.istore_n 1, 1) := by decide +kernel
theorem dX6_tear_13 : decode cX6_tear 13 = .ok (.aload_n 0, 1) := by decide +kernel
theorem dX6_tear_14 : decode cX6_tear 14 = .ok (.iconst 0, 1) := by decide +kernel
theorem dX6_tear_15 : decode cX6_tear 15 = .ok (.putfield 285, 3) := by decide +kernel
theorem dX6_tear_18 : decode cX6_tear 18 = .ok (.iload_n 1, 1) := by decide +kernel
theorem dX6_tear_19 : decode cX6_tear 19 = .ok (.ireturn, 1) := by decide +kernel
theorem dX6_count_0 : decode cX6_count 0 = .ok (.iload_n 1, 1) := by decide +kernel
theorem dX6_count_1 : decode cX6_count 1 = .ok (.tableswitch 123 0 7 #[47, 55, 66, 80, 91, 99, 107, 115], 47) := by decide +kernel
theorem dX6_count_48 : decode cX6_count 48 = .ok (.aload_n 0, 1) := by decide +kernel
theorem dX6_count_49 : decode cX6_count 49 = .ok (.getfield 12, 3) := by decide +kernel
theorem dX6_count_52 : decode cX6_count 52 = .ok (.getfield 289, 3) := by decide +kernel
theorem dX6_count_55 : decode cX6_count 55 = .ok (.ireturn, 1) := by decide +kernel
theorem dX6_count_56 : decode cX6_count 56 = .ok (.aload_n 0, 1) := by decide +kernel
theorem dX6_count_57 : decode cX6_count 57 = .ok (.getfield 12, 3) := by decide +kernel
theorem dX6_count_60 : decode cX6_count 60 = .ok (.getfield 61, 3) := by decide +kernel
theorem dX6_count_63 : decode cX6_count 63 = .ok (.getfield 188, 3) := by decide +kernel
theorem dX6_count_66 : decode cX6_count 66 = .ok (.ireturn, 1) := by decide +kernel
theorem dX6_count_67 : decode cX6_count 67 = .ok (.aload_n 0, 1) := by decide +kernel
theorem dX6_count_68 : decode cX6_count 68 = .ok (.getfield 12, 3) := by decide +kernel
theorem dX6_count_71 : decode cX6_count 71 = .ok (.getfield 61, 3) := by decide +kernel
theorem dX6_count_74 : decode cX6_count 74 = .ok (.invokevirtual 178, 3) := by decide +kernel
theorem dX6_count_77 : decode cX6_count 77 = .ok (.invokestatic 292, 3) := by decide +kernel
theorem dX6_count_80 : decode cX6_count 80 = .ok (.ireturn, 1) := by decide +kernel
theorem dX6_count_81 : decode cX6_count 81 = .ok (.aload_n 0, 1) := by decide +kernel
theorem dX6_count_82 : decode cX6_count 82 = .ok (.getfield 12, 3) := by decide +kernel
theorem dX6_count_85 : decode cX6_count 85 = .ok (.getfield 61, 3) := by decide +kernel
theorem dX6_count_88 : decode cX6_count 88 = .ok (.invokevirtual 169, 3) := by decide +kernel
theorem dX6_count_91 : decode cX6_count 91 = .ok (.ireturn, 1) := by decide +kernel
theorem dX6_count_92 : decode cX6_count 92 = .ok (.aload_n 0, 1) := by decide +kernel
theorem dX6_count_93 : decode cX6_count 93 = .ok (.getfield 12, 3) := by decide +kernel
theorem dX6_count_96 : decode cX6_count 96 = .ok (.getfield 172, 3) := by decide +kernel
theorem dX6_count_99 : decode cX6_count 99 = .ok (.ireturn, 1) := by decide +kernel
theorem dX6_count_100 : decode cX6_count 100 = .ok (.aload_n 0, 1) := by decide +kernel
theorem dX6_count_101 : decode cX6_count 101 = .ok (.getfield 12, 3) := by decide +kernel
theorem dX6_count_104 : decode cX6_count 104 = .ok (.getfield 175, 3) := by decide +kernel
theorem dX6_count_107 : decode cX6_count 107 = .ok (.ireturn, 1) := by decide +kernel
theorem dX6_count_108 : decode cX6_count 108 = .ok (.aload_n 0, 1) := by decide +kernel
theorem dX6_count_109 : decode cX6_count 109 = .ok (.getfield 33, 3) := by decide +kernel
theorem dX6_count_112 : decode cX6_count 112 = .ok (.getfield 217, 3) := by decide +kernel
theorem dX6_count_115 : decode cX6_count 115 = .ok (.ireturn, 1) := by decide +kernel
theorem dX6_count_116 : decode cX6_count 116 = .ok (.aload_n 0, 1) := by decide +kernel
theorem dX6_count_117 : decode cX6_count 117 = .ok (.getfield 12, 3) := by decide +kernel
theorem dX6_count_120 : decode cX6_count 120 = .ok (.getfield 214, 3) := by decide +kernel
theorem dX6_count_123 : decode cX6_count 123 = .ok (.ireturn, 1) := by decide +kernel
theorem dX6_count_124 : decode cX6_count 124 = .ok (.aload_n 0, 1) := by decide +kernel
theorem dX6_count_125 : decode cX6_count 125 = .ok (.ldc 56, 2) := by decide +kernel
theorem dX6_count_127 : decode cX6_count 127 = .ok (.invokevirtual 57, 3) := by decide +kernel
theorem dX6_count_130 : decode cX6_count 130 = .ok (.ireturn, 1) := by decide +kernel
theorem dX6_status_0 : decode cX6_status 0 = .ok (.iload_n 1, 1) := by decide +kernel
theorem dX6_status_1 : decode cX6_status 1 = .ok (.iconst (-1), 1) := by decide +kernel
theorem dX6_status_2 : decode cX6_status 2 = .ok (.bipush 6, 2) := by decide +kernel
theorem dX6_status_4 : decode cX6_status 4 = .ok (.invokestatic 52, 3) := by decide +kernel
theorem dX6_status_7 : decode cX6_status 7 = .ok (.ifCond .ne 10, 3) := by decide +kernel
theorem dX6_status_10 : decode cX6_status 10 = .ok (.aload_n 0, 1) := by decide +kernel
theorem dX6_status_11 : decode cX6_status 11 = .ok (.ldc 56, 2) := by decide +kernel
theorem dX6_status_13 : decode cX6_status 13 = .ok (.invokevirtual 57, 3) := by decide +kernel
theorem dX6_status_16 : decode cX6_status 16 = .ok (.ireturn, 1) := by decide +kernel
theorem dX6_status_17 : decode cX6_status 17 = .ok (.iload_n 1, 1) := by decide +kernel
theorem dX6_status_18 : decode cX6_status 18 = .ok (.ifCond .lt 10, 3) := by decide +kernel
theorem dX6_status_21 : decode cX6_status 21 = .ok (.aload_n 0, 1) := by decide +kernel
theorem dX6_status_22 : decode cX6_status 22 = .ok (.getfield 40, 3) := by decide +kernel
theorem dX6_status_25 : decode cX6_status 25 = .ok (.iload_n 1, 1) := by decide +kernel
theorem dX6_status_26 : decode cX6_status 26 = .ok (.iaload, 1) := by decide +kernel
theorem dX6_status_27 : decode cX6_status 27 = .ok (.ireturn, 1) := by decide +kernel
theorem dX6_status_28 : decode cX6_status 28 = .ok (.iconst 0, 1) := by decide +kernel
theorem dX6_status_29 : decode cX6_status 29 = .ok (.istore_n 2, 1) := by decide +kernel
theorem dX6_status_30 : decode cX6_status 30 = .ok (.iconst 0, 1) := by decide +kernel
theorem dX6_status_31 : decode cX6_status 31 = .ok (.istore_n 3, 1) := by decide +kernel
theorem dX6_status_32 : decode cX6_status 32 = .ok (.iload_n 3, 1) := by decide +kernel
theorem dX6_status_33 : decode cX6_status 33 = .ok (.bipush 7, 2) := by decide +kernel
theorem dX6_status_35 : decode cX6_status 35 = .ok (.if_icmp .ge 18, 3) := by decide +kernel
theorem dX6_status_38 : decode cX6_status 38 = .ok (.iload_n 2, 1) := by decide +kernel
theorem dX6_status_39 : decode cX6_status 39 = .ok (.aload_n 0, 1) := by decide +kernel
theorem dX6_status_40 : decode cX6_status 40 = .ok (.getfield 40, 3) := by decide +kernel
theorem dX6_status_43 : decode cX6_status 43 = .ok (.iload_n 3, 1) := by decide +kernel
theorem dX6_status_44 : decode cX6_status 44 = .ok (.iaload, 1) := by decide +kernel
theorem dX6_status_45 : decode cX6_status 45 = .ok (.iadd, 1) := by decide +kernel
theorem dX6_status_46 : decode cX6_status 46 = .ok (.istore_n 2, 1) := by decide +kernel
theorem dX6_status_47 : decode cX6_status 47 = .ok (.iinc 3 1, 3) := by decide +kernel
theorem dX6_status_50 : decode cX6_status 50 = .ok (.goto (-18), 3) := by decide +kernel
theorem dX6_status_53 : decode cX6_status 53 = .ok (.iload_n 2, 1) := by decide +kernel
theorem dX6_status_54 : decode cX6_status 54 = .ok (.ireturn, 1) := by decide +kernel
theorem dX6_tell_0 : decode cX6_tell 0 = .ok (.ldc 56, 2) := by decide +kernel
theorem dX6_tell_2 : decode cX6_tell 2 = .ok (.iload_n 1, 1) := by decide +kernel
theorem dX6_tell_3 : decode cX6_tell 3 = .ok (.isub, 1) := by decide +kernel
theorem dX6_tell_4 : decode cX6_tell 4 = .ok (.istore_n 2, 1) := by decide +kernel
theorem dX6_tell_5 : decode cX6_tell 5 = .ok (.iload_n 2, 1) := by decide +kernel
theorem dX6_tell_6 : decode cX6_tell 6 = .ok (.iconst 0, 1) := by decide +kernel
theorem dX6_tell_7 : decode cX6_tell 7 = .ok (.bipush 6, 2) := by decide +kernel
theorem dX6_tell_9 : decode cX6_tell 9 = .ok (.invokestatic 52, 3) := by decide +kernel
theorem dX6_tell_12 : decode cX6_tell 12 = .ok (.ifCond .eq 13, 3) := by decide +kernel
theorem dX6_tell_15 : decode cX6_tell 15 = .ok (.aload_n 0, 1) := by decide +kernel
theorem dX6_tell_16 : decode cX6_tell 16 = .ok (.getfield 40, 3) := by decide +kernel
theorem dX6_tell_19 : decode cX6_tell 19 = .ok (.iload_n 2, 1) := by decide +kernel
theorem dX6_tell_20 : decode cX6_tell 20 = .ok (.dup2, 1) := by decide +kernel
theorem dX6_tell_21 : decode cX6_tell 21 = .ok (.iaload, 1) := by decide +kernel
theorem dX6_tell_22 : decode cX6_tell 22 = .ok (.iconst 1, 1) := by decide +kernel
theorem dX6_tell_23 : decode cX6_tell 23 = .ok (.iadd, 1) := by decide +kernel
theorem dX6_tell_24 : decode cX6_tell 24 = .ok (.iastore, 1) := by decide +kernel
theorem dX6_tell_25 : decode cX6_tell 25 = .ok (.iload_n 1, 1) := by decide +kernel
theorem dX6_tell_26 : decode cX6_tell 26 = .ok (.ireturn, 1) := by decide +kernel
theorem dX6_hasHours_0 : decode cX6_hasHours 0 = .ok (.aload_n 0, 1) := by decide +kernel
theorem dX6_hasHours_1 : decode cX6_hasHours 1 = .ok (.getfield 12, 3) := by decide +kernel
theorem dX6_hasHours_4 : decode cX6_hasHours 4 = .ok (.getfield 289, 3) := by decide +kernel
theorem dX6_hasHours_7 : decode cX6_hasHours 7 = .ok (.iload_n 1, 1) := by decide +kernel
theorem dX6_hasHours_8 : decode cX6_hasHours 8 = .ok (.iadd, 1) := by decide +kernel
theorem dX6_hasHours_9 : decode cX6_hasHours 9 = .ok (.sipush 9999, 3) := by decide +kernel
theorem dX6_hasHours_12 : decode cX6_hasHours 12 = .ok (.if_icmp .gt 7, 3) := by decide +kernel
theorem dX6_hasHours_15 : decode cX6_hasHours 15 = .ok (.iconst 1, 1) := by decide +kernel
theorem dX6_hasHours_16 : decode cX6_hasHours 16 = .ok (.goto 4, 3) := by decide +kernel
theorem dX6_hasHours_19 : decode cX6_hasHours 19 = .ok (.iconst 0, 1) := by decide +kernel
theorem dX6_hasHours_20 : decode cX6_hasHours 20 = .ok (.ireturn, 1) := by decide +kernel
theorem dX6_freshTrial_0 : decode cX6_freshTrial 0 = .ok (.aload_n 0, 1) := by decide +kernel
theorem dX6_freshTrial_1 : decode cX6_freshTrial 1 = .ok (.getfield 19, 3) := by decide +kernel
theorem dX6_freshTrial_4 : decode cX6_freshTrial 4 = .ok (.aload_n 0, 1) := by decide +kernel
theorem dX6_freshTrial_5 : decode cX6_freshTrial 5 = .ok (.getfield 12, 3) := by decide +kernel
theorem dX6_freshTrial_8 : decode cX6_freshTrial 8 = .ok (.invokevirtual 230, 3) := by decide +kernel
theorem dX6_freshTrial_11 : decode cX6_freshTrial 11 = .ok (.aload_n 0, 1) := by decide +kernel
theorem dX6_freshTrial_12 : decode cX6_freshTrial 12 = .ok (.getfield 19, 3) := by decide +kernel
theorem dX6_freshTrial_15 : decode cX6_freshTrial 15 = .ok (.areturn, 1) := by decide +kernel
theorem dX6_isWithin_0 : decode cX6_isWithin 0 = .ok (.iload_n 0, 1) := by decide +kernel
theorem dX6_isWithin_1 : decode cX6_isWithin 1 = .ok (.iload_n 1, 1) := by decide +kernel
theorem dX6_isWithin_2 : decode cX6_isWithin 2 = .ok (.if_icmp .lt 12, 3) := by decide +kernel
theorem dX6_isWithin_5 : decode cX6_isWithin 5 = .ok (.iload_n 0, 1) := by decide +kernel
theorem dX6_isWithin_6 : decode cX6_isWithin 6 = .ok (.iload_n 2, 1) := by decide +kernel
theorem dX6_isWithin_7 : decode cX6_isWithin 7 = .ok (.if_icmp .gt 7, 3) := by decide +kernel
theorem dX6_isWithin_10 : decode cX6_isWithin 10 = .ok (.iconst 1, 1) := by decide +kernel
theorem dX6_isWithin_11 : decode cX6_isWithin 11 = .ok (.goto 4, 3) := by decide +kernel
theorem dX6_isWithin_14 : decode cX6_isWithin 14 = .ok (.iconst 0, 1) := by decide +kernel
theorem dX6_isWithin_15 : decode cX6_isWithin 15 = .ok (.ireturn, 1) := by decide +kernel
theorem dX6_isKind_0 : decode cX6_isKind 0 = .ok (.iload_n 0, 1) := by decide +kernel
theorem dX6_isKind_1 : decode cX6_isKind 1 = .ok (.iconst 0, 1) := by decide +kernel
theorem dX6_isKind_2 : decode cX6_isKind 2 = .ok (.bipush 6, 2) := by decide +kernel
theorem dX6_isKind_4 : decode cX6_isKind 4 = .ok (.invokestatic 52, 3) := by decide +kernel
theorem dX6_isKind_7 : decode cX6_isKind 7 = .ok (.ireturn, 1) := by decide +kernel
theorem dX6_isCell_0 : decode cX6_isCell 0 = .ok (.iload_n 0, 1) := by decide +kernel
theorem dX6_isCell_1 : decode cX6_isCell 1 = .ok (.iconst 0, 1) := by decide +kernel
theorem dX6_isCell_2 : decode cX6_isCell 2 = .ok (.bipush 47, 2) := by decide +kernel
theorem dX6_isCell_4 : decode cX6_isCell 4 = .ok (.invokestatic 52, 3) := by decide +kernel
theorem dX6_isCell_7 : decode cX6_isCell 7 = .ok (.ireturn, 1) := by decide +kernel
theorem dX6_isCandle_0 : decode cX6_isCandle 0 = .ok (.iload_n 0, 1) := by decide +kernel
theorem dX6_isCandle_1 : decode cX6_isCandle 1 = .ok (.iconst 0, 1) := by decide +kernel
theorem dX6_isCandle_2 : decode cX6_isCandle 2 = .ok (.iconst 5, 1) := by decide +kernel
theorem dX6_isCandle_3 : decode cX6_isCandle 3 = .ok (.invokestatic 52, 3) := by decide +kernel
theorem dX6_isCandle_6 : decode cX6_isCandle 6 = .ok (.ireturn, 1) := by decide +kernel
theorem dX6_isTune_0 : decode cX6_isTune 0 = .ok (.iload_n 0, 1) := by decide +kernel
theorem dX6_isTune_1 : decode cX6_isTune 1 = .ok (.iconst 2, 1) := by decide +kernel
theorem dX6_isTune_2 : decode cX6_isTune 2 = .ok (.bipush 9, 2) := by decide +kernel
theorem dX6_isTune_4 : decode cX6_isTune 4 = .ok (.invokestatic 52, 3) := by decide +kernel
theorem dX6_isTune_7 : decode cX6_isTune 7 = .ok (.ireturn, 1) := by decide +kernel
theorem dX6_isSpot_0 : decode cX6_isSpot 0 = .ok (.iload_n 0, 1) := by decide +kernel
theorem dX6_isSpot_1 : decode cX6_isSpot 1 = .ok (.iconst 0, 1) := by decide +kernel
theorem dX6_isSpot_2 : decode cX6_isSpot 2 = .ok (.bipush 9, 2) := by decide +kernel
theorem dX6_isSpot_4 : decode cX6_isSpot 4 = .ok (.invokestatic 52, 3) := by decide +kernel
theorem dX6_isSpot_7 : decode cX6_isSpot 7 = .ok (.ireturn, 1) := by decide +kernel
theorem dX6_isSheet_0 : decode cX6_isSheet 0 = .ok (.iload_n 0, 1) := by decide +kernel
theorem dX6_isSheet_1 : decode cX6_isSheet 1 = .ok (.iconst 0, 1) := by decide +kernel
theorem dX6_isSheet_2 : decode cX6_isSheet 2 = .ok (.iconst 3, 1) := by decide +kernel
theorem dX6_isSheet_3 : decode cX6_isSheet 3 = .ok (.invokestatic 52, 3) := by decide +kernel
theorem dX6_isSheet_6 : decode cX6_isSheet 6 = .ok (.ireturn, 1) := by decide +kernel
theorem dX6_isUnder_0 : decode cX6_isUnder 0 = .ok (.iload_n 0, 1) := by decide +kernel
theorem dX6_isUnder_1 : decode cX6_isUnder 1 = .ok (.istore_n 2, 1) := by decide +kernel
theorem dX6_isUnder_2 : decode cX6_isUnder 2 = .ok (.iconst 0, 1) := by decide +kernel
theorem dX6_isUnder_3 : decode cX6_isUnder 3 = .ok (.istore_n 3, 1) := by decide +kernel
theorem dX6_isUnder_4 : decode cX6_isUnder 4 = .ok (.iload_n 3, 1) := by decide +kernel
theorem dX6_isUnder_5 : decode cX6_isUnder 5 = .ok (.bipush 7, 2) := by decide +kernel
theorem dX6_isUnder_7 : decode cX6_isUnder 7 = .ok (.if_icmp .ge 29, 3) := by decide +kernel
theorem dX6_isUnder_10 : decode cX6_isUnder 10 = .ok (.iload_n 2, 1) := by decide +kernel
theorem dX6_isUnder_11 : decode cX6_isUnder 11 = .ok (.invokestatic 45, 3) := by decide +kernel
theorem dX6_isUnder_14 : decode cX6_isUnder 14 = .ok (.ifCond .eq 22, 3) := by decide +kernel
theorem dX6_isUnder_17 : decode cX6_isUnder 17 = .ok (.iload_n 2, 1) := by decide +kernel
theorem dX6_isUnder_18 : decode cX6_isUnder 18 = .ok (.iload_n 1, 1) := by decide +kernel
theorem dX6_isUnder_19 : decode cX6_isUnder 19 = .ok (.if_icmp .ne 5, 3) := by decide +kernel
theorem dX6_isUnder_22 : decode cX6_isUnder 22 = .ok (.iconst 1, 1) := by decide +kernel
theorem dX6_isUnder_23 : decode cX6_isUnder 23 = .ok (.ireturn, 1) := by decide +kernel
theorem dX6_isUnder_24 : decode cX6_isUnder 24 = .ok (.getstatic 297, 3) := by decide +kernel
theorem dX6_isUnder_27 : decode cX6_isUnder 27 = .ok (.iload_n 2, 1) := by decide +kernel
theorem dX6_isUnder_28 : decode cX6_isUnder 28 = .ok (.iaload, 1) := by decide +kernel
theorem dX6_isUnder_29 : decode cX6_isUnder 29 = .ok (.istore_n 2, 1) := by decide +kernel
theorem dX6_isUnder_30 : decode cX6_isUnder 30 = .ok (.iinc 3 1, 3) := by decide +kernel
theorem dX6_isUnder_33 : decode cX6_isUnder 33 = .ok (.goto (-29), 3) := by decide +kernel
theorem dX6_isUnder_36 : decode cX6_isUnder 36 = .ok (.iconst 0, 1) := by decide +kernel
theorem dX6_isUnder_37 : decode cX6_isUnder 37 = .ok (.ireturn, 1) := by decide +kernel
theorem dX7_init_0 : decode cX7_init 0 = .ok (.aload_n 0, 1) := by decide +kernel
theorem dX7_init_1 : decode cX7_init 1 = .ok (.invokespecial 3, 3) := by decide +kernel
theorem dX7_init_4 : decode cX7_init 4 = .ok (.aload_n 0, 1) := by decide +kernel
theorem dX7_init_5 : decode cX7_init 5 = .ok (.bipush 82, 2) := by decide +kernel
theorem dX7_init_7 : decode cX7_init 7 = .ok (.newarray .int, 2) := by decide +kernel
theorem dX7_init_9 : decode cX7_init 9 = .ok (.putfield 9, 3) := by decide +kernel
theorem dX7_init_12 : decode cX7_init 12 = .ok (.aload_n 0, 1) := by decide +kernel
theorem dX7_init_13 : decode cX7_init 13 = .ok (.bipush 82, 2) := by decide +kernel
theorem dX7_init_15 : decode cX7_init 15 = .ok (.newarray .int, 2) := by decide +kernel
theorem dX7_init_17 : decode cX7_init 17 = .ok (.putfield 13, 3) := by decide +kernel
theorem dX7_init_20 : decode cX7_init 20 = .ok (.aload_n 0, 1) := by decide +kernel
theorem dX7_init_21 : decode cX7_init 21 = .ok (.bipush 82, 2) := by decide +kernel
theorem dX7_init_23 : decode cX7_init 23 = .ok (.newarray .int, 2) := by decide +kernel
theorem dX7_init_25 : decode cX7_init 25 = .ok (.putfield 16, 3) := by decide +kernel
theorem dX7_init_28 : decode cX7_init 28 = .ok (.aload_n 0, 1) := by decide +kernel
theorem dX7_init_29 : decode cX7_init 29 = .ok (.bipush 82, 2) := by decide +kernel
theorem dX7_init_31 : decode cX7_init 31 = .ok (.newarray .int, 2) := by decide +kernel
theorem dX7_init_33 : decode cX7_init 33 = .ok (.putfield 19, 3) := by decide +kernel
theorem dX7_init_36 : decode cX7_init 36 = .ok (.aload_n 0, 1) := by decide +kernel
theorem dX7_init_37 : decode cX7_init 37 = .ok (.bipush 7, 2) := by decide +kernel
theorem dX7_init_39 : decode cX7_init 39 = .ok (.newarray .int, 2) := by decide +kernel
theorem dX7_init_41 : decode cX7_init 41 = .ok (.putfield 22, 3) := by decide +kernel
theorem dX7_init_44 : decode cX7_init 44 = .ok (.aload_n 0, 1) := by decide +kernel
theorem dX7_init_45 : decode cX7_init 45 = .ok (.bipush 16, 2) := by decide +kernel
theorem dX7_init_47 : decode cX7_init 47 = .ok (.newarray .int, 2) := by decide +kernel
theorem dX7_init_49 : decode cX7_init 49 = .ok (.putfield 25, 3) := by decide +kernel
theorem dX7_init_52 : decode cX7_init 52 = .ok (.aload_n 0, 1) := by decide +kernel
theorem dX7_init_53 : decode cX7_init 53 = .ok (.bipush 8, 2) := by decide +kernel
theorem dX7_init_55 : decode cX7_init 55 = .ok (.newarray .int, 2) := by decide +kernel
theorem dX7_init_57 : decode cX7_init 57 = .ok (.putfield 28, 3) := by decide +kernel
theorem dX7_init_60 : decode cX7_init 60 = .ok (.aload_n 0, 1) := by decide +kernel
theorem dX7_init_61 : decode cX7_init 61 = .ok (.bipush 120, 2) := by decide +kernel
theorem dX7_init_63 : decode cX7_init 63 = .ok (.newarray .int, 2) := by decide +kernel
theorem dX7_init_65 : decode cX7_init 65 = .ok (.putfield 31, 3) := by decide +kernel
theorem dX7_init_68 : decode cX7_init 68 = .ok (.aload_n 0, 1) := by decide +kernel
theorem dX7_init_69 : decode cX7_init 69 = .ok (.iconst 4, 1) := by decide +kernel
theorem dX7_init_70 : decode cX7_init 70 = .ok (.newarray .int, 2) := by decide +kernel
theorem dX7_init_72 : decode cX7_init 72 = .ok (.putfield 34, 3) := by decide +kernel
theorem dX7_init_75 : decode cX7_init 75 = .ok (.aload_n 0, 1) := by decide +kernel
theorem dX7_init_76 : decode cX7_init 76 = .ok (.iconst 4, 1) := by decide +kernel
theorem dX7_init_77 : decode cX7_init 77 = .ok (.newarray .int, 2) := by decide +kernel
theorem dX7_init_79 : decode cX7_init 79 = .ok (.putfield 37, 3) := by decide +kernel
theorem dX7_init_82 : decode cX7_init 82 = .ok (.aload_n 0, 1) := by decide +kernel
theorem dX7_init_83 : decode cX7_init 83 = .ok (.sipush 160, 3) := by decide +kernel
theorem dX7_init_86 : decode cX7_init 86 = .ok (.newarray .int, 2) := by decide +kernel
theorem dX7_init_88 : decode cX7_init 88 = .ok (.putfield 40, 3) := by decide +kernel
theorem dX7_init_91 : decode cX7_init 91 = .ok (.aload_n 0, 1) := by decide +kernel
theorem dX7_init_92 : decode cX7_init 92 = .ok (.getfield 9, 3) := by decide +kernel
theorem dX7_init_95 : decode cX7_init 95 = .ok (.iconst 1, 1) := by decide +kernel
theorem dX7_init_96 : decode cX7_init 96 = .ok (.bipush (-5), 2) := by decide +kernel
theorem dX7_init_98 : decode cX7_init 98 = .ok (.iastore, 1) := by decide +kernel
theorem dX7_init_99 : decode cX7_init 99 = .ok (.aload_n 0, 1) := by decide +kernel
theorem dX7_init_100 : decode cX7_init 100 = .ok (.getfield 9, 3) := by decide +kernel
theorem dX7_init_103 : decode cX7_init 103 = .ok (.iconst 4, 1) := by decide +kernel
theorem dX7_init_104 : decode cX7_init 104 = .ok (.iconst 1, 1) := by decide +kernel
theorem dX7_init_105 : decode cX7_init 105 = .ok (.iastore, 1) := by decide +kernel
theorem dX7_init_106 : decode cX7_init 106 = .ok (.iconst 0, 1) := by decide +kernel
theorem dX7_init_107 : decode cX7_init 107 = .ok (.istore_n 1, 1) := by decide +kernel
theorem dX7_init_108 : decode cX7_init 108 = .ok (.iload_n 1, 1) := by decide +kernel
theorem dX7_init_109 : decode cX7_init 109 = .ok (.bipush 6, 2) := by decide +kernel
theorem dX7_init_111 : decode cX7_init 111 = .ok (.if_icmp .ge 23, 3) := by decide +kernel
theorem dX7_init_114 : decode cX7_init 114 = .ok (.aload_n 0, 1) := by decide +kernel
theorem dX7_init_115 : decode cX7_init 115 = .ok (.getfield 9, 3) := by decide +kernel
theorem dX7_init_118 : decode cX7_init 118 = .ok (.bipush 6, 2) := by decide +kernel
theorem dX7_init_120 : decode cX7_init 120 = .ok (.iconst 3, 1) := by decide +kernel
theorem dX7_init_121 : decode cX7_init 121 = .ok (.iload_n 1, 1) := by decide +kernel
theorem dX7_init_122 : decode cX7_init 122 = .ok (.imul, 1) := by decide +kernel
theorem dX7_init_123 : decode cX7_init 123 = .ok (.iadd, 1) := by decide +kernel
theorem dX7_init_124 : decode cX7_init 124 = .ok (.iconst 2, 1) := by decide +kernel
theorem dX7_init_125 : decode cX7_init 125 = .ok (.iadd, 1) := by decide +kernel
theorem dX7_init_126 : decode cX7_init 126 = .ok (.iconst 0, 1) := by decide +kernel
theorem dX7_init_127 : decode cX7_init 127 = .ok (.iastore, 1) := by decide +kernel
theorem dX7_init_128 : decode cX7_init 128 = .ok (.iinc 1 1, 3) := by decide +kernel
theorem dX7_init_131 : decode cX7_init 131 = .ok (.goto (-23), 3) := by decide +kernel
theorem dX7_init_134 : decode cX7_init 134 = .ok (.iconst 0, 1) := by decide +kernel
theorem dX7_init_135 : decode cX7_init 135 = .ok (.istore_n 1, 1) := by decide +kernel
theorem dX7_init_136 : decode cX7_init 136 = .ok (.iload_n 1, 1) := by decide +kernel
theorem dX7_init_137 : decode cX7_init 137 = .ok (.bipush 10, 2) := by decide +kernel
theorem dX7_init_139 : decode cX7_init 139 = .ok (.if_icmp .ge 19, 3) := by decide +kernel
theorem dX7_init_142 : decode cX7_init 142 = .ok (.aload_n 0, 1) := by decide +kernel
theorem dX7_init_143 : decode cX7_init 143 = .ok (.getfield 9, 3) := by decide +kernel
theorem dX7_init_146 : decode cX7_init 146 = .ok (.bipush 72, 2) := by decide +kernel
theorem dX7_init_148 : decode cX7_init 148 = .ok (.iload_n 1, 1) := by decide +kernel
theorem dX7_init_149 : decode cX7_init 149 = .ok (.iadd, 1) := by decide +kernel
theorem dX7_init_150 : decode cX7_init 150 = .ok (.iconst (-1), 1) := by decide +kernel
theorem dX7_init_151 : decode cX7_init 151 = .ok (.iastore, 1) := by decide +kernel
theorem dX7_init_152 : decode cX7_init 152 = .ok (.iinc 1 1, 3) := by decide +kernel
theorem dX7_init_155 : decode cX7_init 155 = .ok (.goto (-19), 3) := by decide +kernel
theorem dX7_init_158 : decode cX7_init 158 = .ok (.return_, 1) := by decide +kernel
theorem dX7_finds_0 : decode cX7_finds 0 = .ok (.aload_n 0, 1) := by decide +kernel
theorem dX7_finds_1 : decode cX7_finds 1 = .ok (.getfield 22, 3) := by decide +kernel
theorem dX7_finds_4 : decode cX7_finds 4 = .ok (.ldc 43, 2) := by decide +kernel
theorem dX7_finds_6 : decode cX7_finds 6 = .ok (.iload_n 1, 1) := by decide +kernel
theorem dX7_finds_7 : decode cX7_finds 7 = .ok (.isub, 1) := by decide +kernel
theorem dX7_finds_8 : decode cX7_finds 8 = .ok (.dup2, 1) := by decide +kernel
theorem dX7_finds_9 : decode cX7_finds 9 = .ok (.iaload, 1) := by decide +kernel
theorem dX7_finds_10 : decode cX7_finds 10 = .ok (.iconst 1, 1) := by decide +kernel
theorem dX7_finds_11 : decode cX7_finds 11 = .ok (.iadd, 1) := by decide +kernel
theorem dX7_finds_12 : decode cX7_finds 12 = .ok (.iastore, 1) := by decide +kernel
theorem dX7_finds_13 : decode cX7_finds 13 = .ok (.iload_n 1, 1) := by decide +kernel
theorem dX7_finds_14 : decode cX7_finds 14 = .ok (.ireturn, 1) := by decide +kernel
theorem dX7_orNone_0 : decode cX7_orNone 0 = .ok (.iload_n 1, 1) := by decide +kernel
theorem dX7_orNone_1 : decode cX7_orNone 1 = .ok (.ifCond .ge 12, 3) := by decide +kernel
theorem dX7_orNone_4 : decode cX7_orNone 4 = .ok (.aload_n 0, 1) := by decide +kernel
theorem dX7_orNone_5 : decode cX7_orNone 5 = .ok (.ldc 44, 2) := by decide +kernel
theorem dX7_orNone_7 : decode cX7_orNone 7 = .ok (.invokevirtual 45, 3) := by decide +kernel
theorem dX7_orNone_10 : decode cX7_orNone 10 = .ok (.goto 4, 3) := by decide +kernel
theorem dX7_orNone_13 : decode cX7_orNone 13 = .ok (.iload_n 1, 1) := by decide +kernel
theorem dX7_orNone_14 : decode cX7_orNone 14 = .ok (.ireturn, 1) := by decide +kernel
theorem dX7_in_0 : decode cX7_in 0 = .ok (.lload_n 0, 1) := by decide +kernel
theorem dX7_in_1 : decode cX7_in 1 = .ok (.lload_n 2, 1) := by decide +kernel
theorem dX7_in_2 : decode cX7_in 2 = .ok (.lcmp, 1) := by decide +kernel
theorem dX7_in_3 : decode cX7_in 3 = .ok (.ifCond .lt 14, 3) := by decide +kernel
theorem dX7_in_6 : decode cX7_in 6 = .ok (.lload_n 0, 1) := by decide +kernel
theorem dX7_in_7 : decode cX7_in 7 = .ok (.lload 4, 2) := by decide +kernel
theorem dX7_in_9 : decode cX7_in 9 = .ok (.lcmp, 1) := by decide +kernel
theorem dX7_in_10 : decode cX7_in 10 = .ok (.ifCond .gt 7, 3) := by decide +kernel
theorem dX7_in_13 : decode cX7_in 13 = .ok (.iconst 1, 1) := by decide +kernel
theorem dX7_in_14 : decode cX7_in 14 = .ok (.goto 4, 3) := by decide +kernel
theorem dX7_in_17 : decode cX7_in 17 = .ok (.iconst 0, 1) := by decide +kernel
theorem dX7_in_18 : decode cX7_in 18 = .ok (.ireturn, 1) := by decide +kernel
theorem dX7_has_0 : decode cX7_has 0 = .ok (.iload_n 0, 1) := by decide +kernel
theorem dX7_has_1 : decode cX7_has 1 = .ok (.iload_n 1, 1) := by decide +kernel
theorem dX7_has_2 : decode cX7_has 2 = .ok (.ishr, 1) := by decide +kernel
theorem dX7_has_3 : decode cX7_has 3 = .ok (.iconst 1, 1) := by decide +kernel
theorem dX7_has_4 : decode cX7_has 4 = .ok (.iand, 1) := by decide +kernel
theorem dX7_has_5 : decode cX7_has 5 = .ok (.iconst 1, 1) := by decide +kernel
theorem dX7_has_6 : decode cX7_has 6 = .ok (.if_icmp .ne 7, 3) := by decide +kernel
theorem dX7_has_9 : decode cX7_has 9 = .ok (.iconst 1, 1) := by decide +kernel
theorem dX7_has_10 : decode cX7_has 10 = .ok (.goto 4, 3) := by decide +kernel
theorem dX7_has_13 : decode cX7_has 13 = .ok (.iconst 0, 1) := by decide +kernel
theorem dX7_has_14 : decode cX7_has 14 = .ok (.ireturn, 1) := by decide +kernel
theorem dX7_many_0 : decode cX7_many 0 = .ok (.iconst 0, 1) := by decide +kernel
theorem dX7_many_1 : decode cX7_many 1 = .ok (.istore_n 1, 1) := by decide +kernel
theorem dX7_many_2 : decode cX7_many 2 = .ok (.iconst 0, 1) := by decide +kernel
theorem dX7_many_3 : decode cX7_many 3 = .ok (.istore_n 2, 1) := by decide +kernel
theorem dX7_many_4 : decode cX7_many 4 = .ok (.iload_n 2, 1) := by decide +kernel
theorem dX7_many_5 : decode cX7_many 5 = .ok (.bipush 16, 2) := by decide +kernel
theorem dX7_many_7 : decode cX7_many 7 = .ok (.if_icmp .ge 17, 3) := by decide +kernel
theorem dX7_many_10 : decode cX7_many 10 = .ok (.iload_n 1, 1) := by decide +kernel
theorem dX7_many_11 : decode cX7_many 11 = .ok (.iload_n 0, 1) := by decide +kernel
theorem dX7_many_12 : decode cX7_many 12 = .ok (.iload_n 2, 1) := by decide +kernel
theorem dX7_many_13 : decode cX7_many 13 = .ok (.ishr, 1) := by decide +kernel
theorem dX7_many_14 : decode cX7_many 14 = .ok (.iconst 1, 1) := by decide +kernel
theorem dX7_many_15 : decode cX7_many 15 = .ok (.iand, 1) := by decide +kernel
theorem dX7_many_16 : decode cX7_many 16 = .ok (.iadd, 1) := by decide +kernel
theorem dX7_many_17 : decode cX7_many 17 = .ok (.istore_n 1, 1) := by decide +kernel
theorem dX7_many_18 : decode cX7_many 18 = .ok (.iinc 2 1, 3) := by decide +kernel
theorem dX7_many_21 : decode cX7_many 21 = .ok (.goto (-17), 3) := by decide +kernel
theorem dX7_many_24 : decode cX7_many 24 = .ok (.iload_n 1, 1) := by decide +kernel
theorem dX7_many_25 : decode cX7_many 25 = .ok (.ireturn, 1) := by decide +kernel
theorem dX7_row_0 : decode cX7_row 0 = .ok (.iconst 0, 1) := by decide +kernel
theorem dX7_row_1 : decode cX7_row 1 = .ok (.istore_n 2, 1) := by decide +kernel
theorem dX7_row_2 : decode cX7_row 2 = .ok (.iload_n 2, 1) := by decide +kernel
theorem dX7_row_3 : decode cX7_row 3 = .ok (.bipush 82, 2) := by decide +kernel
theorem dX7_row_5 : decode cX7_row 5 = .ok (.if_icmp .ge 15, 3) := by decide +kernel
theorem dX7_row_8 : decode cX7_row 8 = .ok (.aload_n 1, 1) := by decide +kernel
theorem dX7_row_9 : decode cX7_row 9 = .ok (.iload_n 2, 1) := by decide +kernel
theorem dX7_row_10 : decode cX7_row 10 = .ok (.aload_n 0, 1) := by decide +kernel
theorem dX7_row_11 : decode cX7_row 11 = .ok (.iload_n 2, 1) := by decide +kernel
theorem dX7_row_12 : decode cX7_row 12 = .ok (.iaload, 1) := by decide +kernel
theorem dX7_row_13 : decode cX7_row 13 = .ok (.iastore, 1) := by decide +kernel
theorem dX7_row_14 : decode cX7_row 14 = .ok (.iinc 2 1, 3) := by decide +kernel
theorem dX7_row_17 : decode cX7_row 17 = .ok (.goto (-15), 3) := by decide +kernel
theorem dX7_row_20 : decode cX7_row 20 = .ok (.return_, 1) := by decide +kernel
theorem dX7_becomes_0 : decode cX7_becomes 0 = .ok (.aload_n 0, 1) := by decide +kernel
theorem dX7_becomes_1 : decode cX7_becomes 1 = .ok (.getfield 9, 3) := by decide +kernel
theorem dX7_becomes_4 : decode cX7_becomes 4 = .ok (.iload_n 1, 1) := by decide +kernel
theorem dX7_becomes_5 : decode cX7_becomes 5 = .ok (.iaload, 1) := by decide +kernel
theorem dX7_becomes_6 : decode cX7_becomes 6 = .ok (.istore_n 3, 1) := by decide +kernel
theorem dX7_becomes_7 : decode cX7_becomes 7 = .ok (.aload_n 0, 1) := by decide +kernel
theorem dX7_becomes_8 : decode cX7_becomes 8 = .ok (.getfield 9, 3) := by decide +kernel
theorem dX7_becomes_11 : decode cX7_becomes 11 = .ok (.iload_n 1, 1) := by decide +kernel
theorem dX7_becomes_12 : decode cX7_becomes 12 = .ok (.iload_n 2, 1) := by decide +kernel
theorem dX7_becomes_13 : decode cX7_becomes 13 = .ok (.iastore, 1) := by decide +kernel
theorem dX7_becomes_14 : decode cX7_becomes 14 = .ok (.iload_n 3, 1) := by decide +kernel
theorem dX7_becomes_15 : decode cX7_becomes 15 = .ok (.ireturn, 1) := by decide +kernel
theorem dX7_isCell_0 : decode cX7_isCell 0 = .ok (.iload_n 0, 1) := by decide +kernel
theorem dX7_isCell_1 : decode cX7_isCell 1 = .ok (.i2l, 1) := by decide +kernel
theorem dX7_isCell_2 : decode cX7_isCell 2 = .ok (.lconst 0, 1) := by decide +kernel
theorem dX7_isCell_3 : decode cX7_isCell 3 = .ok (.ldc2_w 49, 3) := by decide +kernel
theorem dX7_isCell_6 : decode cX7_isCell 6 = .ok (.invokestatic 51, 3) := by decide +kernel
theorem dX7_isCell_9 : decode cX7_isCell 9 = .ok (.ireturn, 1) := by decide +kernel
theorem dX7_isBlock_0 : decode cX7_isBlock 0 = .ok (.iload_n 1, 1) := by decide +kernel
theorem dX7_isBlock_1 : decode cX7_isBlock 1 = .ok (.i2l, 1) := by decide +kernel
theorem dX7_isBlock_2 : decode cX7_isBlock 2 = .ok (.lconst 0, 1) := by decide +kernel
theorem dX7_isBlock_3 : decode cX7_isBlock 3 = .ok (.aload_n 0, 1) := by decide +kernel
theorem dX7_isBlock_4 : decode cX7_isBlock 4 = .ok (.getfield 9, 3) := by decide +kernel
theorem dX7_isBlock_7 : decode cX7_isBlock 7 = .ok (.iconst 5, 1) := by decide +kernel
theorem dX7_isBlock_8 : decode cX7_isBlock 8 = .ok (.iaload, 1) := by decide +kernel
theorem dX7_isBlock_9 : decode cX7_isBlock 9 = .ok (.iconst 1, 1) := by decide +kernel
theorem dX7_isBlock_10 : decode cX7_isBlock 10 = .ok (.isub, 1) := by decide +kernel
theorem dX7_isBlock_11 : decode cX7_isBlock 11 = .ok (.i2l, 1) := by decide +kernel
theorem dX7_isBlock_12 : decode cX7_isBlock 12 = .ok (.invokestatic 51, 3) := by decide +kernel
theorem dX7_isBlock_15 : decode cX7_isBlock 15 = .ok (.ireturn, 1) := by decide +kernel
theorem dX7_isCandle_0 : decode cX7_isCandle 0 = .ok (.iload_n 0, 1) := by decide +kernel
theorem dX7_isCandle_1 : decode cX7_isCandle 1 = .ok (.i2l, 1) := by decide +kernel
theorem dX7_isCandle_2 : decode cX7_isCandle 2 = .ok (.lconst 0, 1) := by decide +kernel
theorem dX7_isCandle_3 : decode cX7_isCandle 3 = .ok (.ldc2_w 55, 3) := by decide +kernel
theorem dX7_isCandle_6 : decode cX7_isCandle 6 = .ok (.invokestatic 51, 3) := by decide +kernel
theorem dX7_isCandle_9 : decode cX7_isCandle 9 = .ok (.ireturn, 1) := by decide +kernel
theorem dX7_isKind_0 : decode cX7_isKind 0 = .ok (.iload_n 0, 1) := by decide +kernel
theorem dX7_isKind_1 : decode cX7_isKind 1 = .ok (.i2l, 1) := by decide +kernel
theorem dX7_isKind_2 : decode cX7_isKind 2 = .ok (.lconst 0, 1) := by decide +kernel
theorem dX7_isKind_3 : decode cX7_isKind 3 = .ok (.ldc2_w 57, 3) := by decide +kernel
theorem dX7_isKind_6 : decode cX7_isKind 6 = .ok (.invokestatic 51, 3) := by decide +kernel
theorem dX7_isKind_9 : decode cX7_isKind 9 = .ok (.ireturn, 1) := by decide +kernel
theorem dX7_isSome_0 : decode cX7_isSome 0 = .ok (.iload_n 0, 1) := by decide +kernel
theorem dX7_isSome_1 : decode cX7_isSome 1 = .ok (.i2l, 1) := by decide +kernel
theorem dX7_isSome_2 : decode cX7_isSome 2 = .ok (.lconst 1, 1) := by decide +kernel
theorem dX7_isSome_3 : decode cX7_isSome 3 = .ok (.ldc2_w 59, 3) := by decide +kernel
theorem dX7_isSome_6 : decode cX7_isSome 6 = .ok (.invokestatic 51, 3) := by decide +kernel
theorem dX7_isSome_9 : decode cX7_isSome 9 = .ok (.ireturn, 1) := by decide +kernel
theorem dX7_kindOf_0 : decode cX7_kindOf 0 = .ok (.aload_n 0, 1) := by decide +kernel
theorem dX7_kindOf_1 : decode cX7_kindOf 1 = .ok (.getfield 9, 3) := by decide +kernel
theorem dX7_kindOf_4 : decode cX7_kindOf 4 = .ok (.bipush 24, 2) := by decide +kernel
theorem dX7_kindOf_6 : decode cX7_kindOf 6 = .ok (.iconst 3, 1) := by decide +kernel
theorem dX7_kindOf_7 : decode cX7_kindOf 7 = .ok (.iload_n 1, 1) := by decide +kernel
theorem dX7_kindOf_8 : decode cX7_kindOf 8 = .ok (.imul, 1) := by decide +kernel
theorem dX7_kindOf_9 : decode cX7_kindOf 9 = .ok (.iadd, 1) := by decide +kernel
theorem dX7_kindOf_10 : decode cX7_kindOf 10 = .ok (.iaload, 1) := by decide +kernel
theorem dX7_kindOf_11 : decode cX7_kindOf 11 = .ok (.ireturn, 1) := by decide +kernel
theorem dX7_cellOf_0 : decode cX7_cellOf 0 = .ok (.aload_n 0, 1) := by decide +kernel
theorem dX7_cellOf_1 : decode cX7_cellOf 1 = .ok (.getfield 9, 3) := by decide +kernel
theorem dX7_cellOf_4 : decode cX7_cellOf 4 = .ok (.bipush 24, 2) := by decide +kernel
theorem dX7_cellOf_6 : decode cX7_cellOf 6 = .ok (.iconst 3, 1) := by decide +kernel
theorem dX7_cellOf_7 : decode cX7_cellOf 7 = .ok (.iload_n 1, 1) := by decide +kernel
theorem dX7_cellOf_8 : decode cX7_cellOf 8 = .ok (.imul, 1) := by decide +kernel
theorem dX7_cellOf_9 : decode cX7_cellOf 9 = .ok (.iadd, 1) := by decide +kernel
theorem dX7_cellOf_10 : decode cX7_cellOf 10 = .ok (.iconst 1, 1) := by decide +kernel
theorem dX7_cellOf_11 : decode cX7_cellOf 11 = .ok (.iadd, 1) := by decide +kernel
theorem dX7_cellOf_12 : decode cX7_cellOf 12 = .ok (.iaload, 1) := by decide +kernel
theorem dX7_cellOf_13 : decode cX7_cellOf 13 = .ok (.ireturn, 1) := by decide +kernel
theorem dX7_grains_0 : decode cX7_grains 0 = .ok (.aload_n 0, 1) := by decide +kernel
theorem dX7_grains_1 : decode cX7_grains 1 = .ok (.getfield 9, 3) := by decide +kernel
theorem dX7_grains_4 : decode cX7_grains 4 = .ok (.bipush 24, 2) := by decide +kernel
theorem dX7_grains_6 : decode cX7_grains 6 = .ok (.iconst 3, 1) := by decide +kernel
theorem dX7_grains_7 : decode cX7_grains 7 = .ok (.iload_n 1, 1) := by decide +kernel
theorem dX7_grains_8 : decode cX7_grains 8 = .ok (.imul, 1) := by decide +kernel
theorem dX7_grains_9 : decode cX7_grains 9 = .ok (.iadd, 1) := by decide +kernel
theorem dX7_grains_10 : decode cX7_grains 10 = .ok (.iconst 2, 1) := by decide +kernel
theorem dX7_grains_11 : decode cX7_grains 11 = .ok (.iadd, 1) := by decide +kernel
theorem dX7_grains_12 : decode cX7_grains 12 = .ok (.iaload, 1) := by decide +kernel
theorem dX7_grains_13 : decode cX7_grains 13 = .ok (.ireturn, 1) := by decide +kernel
theorem dX7_makes_0 : decode cX7_makes 0 = .ok (.aload_n 0, 1) := by decide +kernel
theorem dX7_makes_1 : decode cX7_makes 1 = .ok (.getfield 9, 3) := by decide +kernel
theorem dX7_makes_4 : decode cX7_makes 4 = .ok (.bipush 24, 2) := by decide +kernel
theorem dX7_makes_6 : decode cX7_makes 6 = .ok (.iconst 3, 1) := by decide +kernel
theorem dX7_makes_7 : decode cX7_makes 7 = .ok (.iload_n 1, 1) := by decide +kernel
theorem dX7_makes_8 : decode cX7_makes 8 = .ok (.imul, 1) := by decide +kernel
theorem dX7_makes_9 : decode cX7_makes 9 = .ok (.iadd, 1) := by decide +kernel
theorem dX7_makes_10 : decode cX7_makes 10 = .ok (.iconst 2, 1) := by decide +kernel
theorem dX7_makes_11 : decode cX7_makes 11 = .ok (.iadd, 1) := by decide +kernel
theorem dX7_makes_12 : decode cX7_makes 12 = .ok (.iload_n 2, 1) := by decide +kernel
theorem dX7_makes_13 : decode cX7_makes 13 = .ok (.iastore, 1) := by decide +kernel
theorem dX7_makes_14 : decode cX7_makes 14 = .ok (.return_, 1) := by decide +kernel
theorem dX7_isGone_0 : decode cX7_isGone 0 = .ok (.aload_n 0, 1) := by decide +kernel
theorem dX7_isGone_1 : decode cX7_isGone 1 = .ok (.iload_n 1, 1) := by decide +kernel
theorem dX7_isGone_2 : decode cX7_isGone 2 = .ok (.invokevirtual 61, 3) := by decide +kernel
theorem dX7_isGone_5 : decode cX7_isGone 5 = .ok (.ifCond .ge 7, 3) := by decide +kernel
theorem dX7_isGone_8 : decode cX7_isGone 8 = .ok (.iconst 1, 1) := by decide +kernel
theorem dX7_isGone_9 : decode cX7_isGone 9 = .ok (.goto 4, 3) := by decide +kernel
theorem dX7_isGone_12 : decode cX7_isGone 12 = .ok (.iconst 0, 1) := by decide +kernel
theorem dX7_isGone_13 : decode cX7_isGone 13 = .ok (.ireturn, 1) := by decide +kernel
theorem dX7_blockOn_0 : decode cX7_blockOn 0 = .ok (.iconst 0, 1) := by decide +kernel
theorem dX7_blockOn_1 : decode cX7_blockOn 1 = .ok (.istore_n 2, 1) := by decide +kernel
theorem dX7_blockOn_2 : decode cX7_blockOn 2 = .ok (.iload_n 2, 1) := by decide +kernel
theorem dX7_blockOn_3 : decode cX7_blockOn 3 = .ok (.aload_n 0, 1) := by decide +kernel
theorem dX7_blockOn_4 : decode cX7_blockOn 4 = .ok (.getfield 9, 3) := by decide +kernel
theorem dX7_blockOn_7 : decode cX7_blockOn 7 = .ok (.iconst 5, 1) := by decide +kernel
theorem dX7_blockOn_8 : decode cX7_blockOn 8 = .ok (.iaload, 1) := by decide +kernel
theorem dX7_blockOn_9 : decode cX7_blockOn 9 = .ok (.if_icmp .ge 24, 3) := by decide +kernel
theorem dX7_blockOn_12 : decode cX7_blockOn 12 = .ok (.iload_n 1, 1) := by decide +kernel
theorem dX7_blockOn_13 : decode cX7_blockOn 13 = .ok (.ifCond .lt 20, 3) := by decide +kernel
theorem dX7_blockOn_16 : decode cX7_blockOn 16 = .ok (.aload_n 0, 1) := by decide +kernel
theorem dX7_blockOn_17 : decode cX7_blockOn 17 = .ok (.iload_n 2, 1) := by decide +kernel
theorem dX7_blockOn_18 : decode cX7_blockOn 18 = .ok (.invokevirtual 61, 3) := by decide +kernel
theorem dX7_blockOn_21 : decode cX7_blockOn 21 = .ok (.iload_n 1, 1) := by decide +kernel
theorem dX7_blockOn_22 : decode cX7_blockOn 22 = .ok (.if_icmp .ne 5, 3) := by decide +kernel
theorem dX7_blockOn_25 : decode cX7_blockOn 25 = .ok (.iload_n 2, 1) := by decide +kernel
theorem dX7_blockOn_26 : decode cX7_blockOn 26 = .ok (.ireturn, 1) := by decide +kernel
theorem dX7_blockOn_27 : decode cX7_blockOn 27 = .ok (.iinc 2 1, 3) := by decide +kernel
theorem dX7_blockOn_30 : decode cX7_blockOn 30 = .ok (.goto (-28), 3) := by decide +kernel
theorem dX7_blockOn_33 : decode cX7_blockOn 33 = .ok (.iconst (-1), 1) := by decide +kernel
theorem dX7_blockOn_34 : decode cX7_blockOn 34 = .ok (.ireturn, 1) := by decide +kernel
theorem dX7_comes_0 : decode cX7_comes 0 = .ok (.aload_n 0, 1) := by decide +kernel
theorem dX7_comes_1 : decode cX7_comes 1 = .ok (.getfield 9, 3) := by decide +kernel
theorem dX7_comes_4 : decode cX7_comes 4 = .ok (.iconst 5, 1) := by decide +kernel
theorem dX7_comes_5 : decode cX7_comes 5 = .ok (.iaload, 1) := by decide +kernel
theorem dX7_comes_6 : decode cX7_comes 6 = .ok (.istore 4, 2) := by decide +kernel
theorem dX7_comes_8 : decode cX7_comes 8 = .ok (.aload_n 0, 1) := by decide +kernel
theorem dX7_comes_9 : decode cX7_comes 9 = .ok (.getfield 9, 3) := by decide +kernel
theorem dX7_comes_12 : decode cX7_comes 12 = .ok (.bipush 24, 2) := by decide +kernel
theorem dX7_comes_14 : decode cX7_comes 14 = .ok (.iconst 3, 1) := by decide +kernel
theorem dX7_comes_15 : decode cX7_comes 15 = .ok (.iload 4, 2) := by decide +kernel
theorem dX7_comes_17 : decode cX7_comes 17 = .ok (.imul, 1) := by decide +kernel
theorem dX7_comes_18 : decode cX7_comes 18 = .ok (.iadd, 1) := by decide +kernel
theorem dX7_comes_19 : decode cX7_comes 19 = .ok (.iload_n 1, 1) := by decide +kernel
theorem dX7_comes_20 : decode cX7_comes 20 = .ok (.iastore, 1) := by decide +kernel
theorem dX7_comes_21 : decode cX7_comes 21 = .ok (.aload_n 0, 1) := by decide +kernel
theorem dX7_comes_22 : decode cX7_comes 22 = .ok (.getfield 9, 3) := by decide +kernel
theorem dX7_comes_25 : decode cX7_comes 25 = .ok (.bipush 24, 2) := by decide +kernel
theorem dX7_comes_27 : decode cX7_comes 27 = .ok (.iconst 3, 1) := by decide +kernel
theorem dX7_comes_28 : decode cX7_comes 28 = .ok (.iload 4, 2) := by decide +kernel
theorem dX7_comes_30 : decode cX7_comes 30 = .ok (.imul, 1) := by decide +kernel
theorem dX7_comes_31 : decode cX7_comes 31 = .ok (.iadd, 1) := by decide +kernel
theorem dX7_comes_32 : decode cX7_comes 32 = .ok (.iconst 1, 1) := by decide +kernel
theorem dX7_comes_33 : decode cX7_comes 33 = .ok (.iadd, 1) := by decide +kernel
theorem dX7_comes_34 : decode cX7_comes 34 = .ok (.iload_n 2, 1) := by decide +kernel
theorem dX7_comes_35 : decode cX7_comes 35 = .ok (.iastore, 1) := by decide +kernel
theorem dX7_comes_36 : decode cX7_comes 36 = .ok (.aload_n 0, 1) := by decide +kernel
theorem dX7_comes_37 : decode cX7_comes 37 = .ok (.getfield 9, 3) := by decide +kernel
theorem dX7_comes_40 : decode cX7_comes 40 = .ok (.bipush 24, 2) := by decide +kernel
theorem dX7_comes_42 : decode cX7_comes 42 = .ok (.iconst 3, 1) := by decide +kernel
theorem dX7_comes_43 : decode cX7_comes 43 = .ok (.iload 4, 2) := by decide +kernel
theorem dX7_comes_45 : decode cX7_comes 45 = .ok (.imul, 1) := by decide +kernel
theorem dX7_comes_46 : decode cX7_comes 46 = .ok (.iadd, 1) := by decide +kernel
theorem dX7_comes_47 : decode cX7_comes 47 = .ok (.iconst 2, 1) := by decide +kernel
theorem dX7_comes_48 : decode cX7_comes 48 = .ok (.iadd, 1) := by decide +kernel
theorem dX7_comes_49 : decode cX7_comes 49 = .ok (.iload_n 3, 1) := by decide +kernel
theorem dX7_comes_50 : decode cX7_comes 50 = .ok (.iastore, 1) := by decide +kernel
theorem dX7_comes_51 : decode cX7_comes 51 = .ok (.aload_n 0, 1) := by decide +kernel
theorem dX7_comes_52 : decode cX7_comes 52 = .ok (.getfield 9, 3) := by decide +kernel
theorem dX7_comes_55 : decode cX7_comes 55 = .ok (.iconst 5, 1) := by decide +kernel
theorem dX7_comes_56 : decode cX7_comes 56 = .ok (.dup2, 1) := by decide +kernel
theorem dX7_comes_57 : decode cX7_comes 57 = .ok (.iaload, 1) := by decide +kernel
theorem dX7_comes_58 : decode cX7_comes 58 = .ok (.iconst 1, 1) := by decide +kernel
theorem dX7_comes_59 : decode cX7_comes 59 = .ok (.iadd, 1) := by decide +kernel
theorem dX7_comes_60 : decode cX7_comes 60 = .ok (.iastore, 1) := by decide +kernel
theorem dX7_comes_61 : decode cX7_comes 61 = .ok (.iload 4, 2) := by decide +kernel
theorem dX7_comes_63 : decode cX7_comes 63 = .ok (.ireturn, 1) := by decide +kernel
theorem dX7_block_0 : decode cX7_block 0 = .ok (.iload_n 1, 1) := by decide +kernel
theorem dX7_block_1 : decode cX7_block 1 = .ok (.invokestatic 64, 3) := by decide +kernel
theorem dX7_block_4 : decode cX7_block 4 = .ok (.ifCond .eq 17, 3) := by decide +kernel
theorem dX7_block_7 : decode cX7_block 7 = .ok (.iload_n 2, 1) := by decide +kernel
theorem dX7_block_8 : decode cX7_block 8 = .ok (.invokestatic 68, 3) := by decide +kernel
theorem dX7_block_11 : decode cX7_block 11 = .ok (.ifCond .eq 10, 3) := by decide +kernel
theorem dX7_block_14 : decode cX7_block 14 = .ok (.iload_n 3, 1) := by decide +kernel
theorem dX7_block_15 : decode cX7_block 15 = .ok (.invokestatic 71, 3) := by decide +kernel
theorem dX7_block_18 : decode cX7_block 18 = .ok (.ifCond .ne 10, 3) := by decide +kernel
theorem dX7_block_21 : decode cX7_block 21 = .ok (.aload_n 0, 1) := by decide +kernel
theorem dX7_block_22 : decode cX7_block 22 = .ok (.ldc 43, 2) := by decide +kernel
theorem dX7_block_24 : decode cX7_block 24 = .ok (.invokevirtual 45, 3) := by decide +kernel
theorem dX7_block_27 : decode cX7_block 27 = .ok (.ireturn, 1) := by decide +kernel
theorem dX7_block_28 : decode cX7_block 28 = .ok (.aload_n 0, 1) := by decide +kernel
theorem dX7_block_29 : decode cX7_block 29 = .ok (.getfield 9, 3) := by decide +kernel
theorem dX7_block_32 : decode cX7_block 32 = .ok (.iconst 5, 1) := by decide +kernel
theorem dX7_block_33 : decode cX7_block 33 = .ok (.iaload, 1) := by decide +kernel
theorem dX7_block_34 : decode cX7_block 34 = .ok (.bipush 16, 2) := by decide +kernel
theorem dX7_block_36 : decode cX7_block 36 = .ok (.if_icmp .ne 10, 3) := by decide +kernel
theorem dX7_block_39 : decode cX7_block 39 = .ok (.aload_n 0, 1) := by decide +kernel
theorem dX7_block_40 : decode cX7_block 40 = .ok (.ldc 74, 2) := by decide +kernel
theorem dX7_block_42 : decode cX7_block 42 = .ok (.invokevirtual 45, 3) := by decide +kernel
theorem dX7_block_45 : decode cX7_block 45 = .ok (.ireturn, 1) := by decide +kernel
theorem dX7_block_46 : decode cX7_block 46 = .ok (.aload_n 0, 1) := by decide +kernel
theorem dX7_block_47 : decode cX7_block 47 = .ok (.iload_n 2, 1) := by decide +kernel
theorem dX7_block_48 : decode cX7_block 48 = .ok (.invokevirtual 75, 3) := by decide +kernel
theorem dX7_block_51 : decode cX7_block 51 = .ok (.ifCond .lt 12, 3) := by decide +kernel
theorem dX7_block_54 : decode cX7_block 54 = .ok (.aload_n 0, 1) := by decide +kernel
theorem dX7_block_55 : decode cX7_block 55 = .ok (.ldc 78, 2) := by decide +kernel
theorem dX7_block_57 : decode cX7_block 57 = .ok (.invokevirtual 45, 3) := by decide +kernel
theorem dX7_block_60 : decode cX7_block 60 = .ok (.goto 10, 3) := by decide +kernel
theorem dX7_block_63 : decode cX7_block 63 = .ok (.aload_n 0, 1) := by decide +kernel
theorem dX7_block_64 : decode cX7_block 64 = .ok (.iload_n 1, 1) := by decide +kernel
theorem dX7_block_65 : decode cX7_block 65 = .ok (.iload_n 2, 1) := by decide +kernel
theorem dX7_block_66 : decode cX7_block 66 = .ok (.iload_n 3, 1) := by decide +kernel
theorem dX7_block_67 : decode cX7_block 67 = .ok (.invokevirtual 79, 3) := by decide +kernel
theorem dX7_block_70 : decode cX7_block 70 = .ok (.ireturn, 1) := by decide +kernel
theorem dX7_below_0 : decode cX7_below 0 = .ok (.iload_n 0, 1) := by decide +kernel
theorem dX7_below_1 : decode cX7_below 1 = .ok (.bipush 8, 2) := by decide +kernel
theorem dX7_below_3 : decode cX7_below 3 = .ok (.if_icmp .ge 7, 3) := by decide +kernel
theorem dX7_below_6 : decode cX7_below 6 = .ok (.iconst (-1), 1) := by decide +kernel
theorem dX7_below_7 : decode cX7_below 7 = .ok (.goto 7, 3) := by decide +kernel
theorem dX7_below_10 : decode cX7_below 10 = .ok (.iload_n 0, 1) := by decide +kernel
theorem dX7_below_11 : decode cX7_below 11 = .ok (.bipush 8, 2) := by decide +kernel
theorem dX7_below_13 : decode cX7_below 13 = .ok (.isub, 1) := by decide +kernel
theorem dX7_below_14 : decode cX7_below 14 = .ok (.ireturn, 1) := by decide +kernel
theorem dX7_above_0 : decode cX7_above 0 = .ok (.iload_n 0, 1) := by decide +kernel
theorem dX7_above_1 : decode cX7_above 1 = .ok (.bipush 40, 2) := by decide +kernel
theorem dX7_above_3 : decode cX7_above 3 = .ok (.if_icmp .ge 10, 3) := by decide +kernel
theorem dX7_above_6 : decode cX7_above 6 = .ok (.iload_n 0, 1) := by decide +kernel
theorem dX7_above_7 : decode cX7_above 7 = .ok (.bipush 8, 2) := by decide +kernel
theorem dX7_above_9 : decode cX7_above 9 = .ok (.iadd, 1) := by decide +kernel
theorem dX7_above_10 : decode cX7_above 10 = .ok (.goto 4, 3) := by decide +kernel
theorem dX7_above_13 : decode cX7_above 13 = .ok (.iconst (-1), 1) := by decide +kernel
theorem dX7_above_14 : decode cX7_above 14 = .ok (.ireturn, 1) := by decide +kernel
theorem dX7_left_0 : decode cX7_left 0 = .ok (.iload_n 0, 1) := by decide +kernel
theorem dX7_left_1 : decode cX7_left 1 = .ok (.bipush 8, 2) := by decide +kernel
theorem dX7_left_3 : decode cX7_left 3 = .ok (.irem, 1) := by decide +kernel
theorem dX7_left_4 : decode cX7_left 4 = .ok (.ifCond .ne 7, 3) := by decide +kernel
theorem dX7_left_7 : decode cX7_left 7 = .ok (.iconst (-1), 1) := by decide +kernel
theorem dX7_left_8 : decode cX7_left 8 = .ok (.goto 6, 3) := by decide +kernel
theorem dX7_left_11 : decode cX7_left 11 = .ok (.iload_n 0, 1) := by decide +kernel
theorem dX7_left_12 : decode cX7_left 12 = .ok (.iconst 1, 1) := by decide +kernel
theorem dX7_left_13 : decode cX7_left 13 = .ok (.isub, 1) := by decide +kernel
theorem dX7_left_14 : decode cX7_left 14 = .ok (.ireturn, 1) := by decide +kernel
theorem dX7_right_0 : decode cX7_right 0 = .ok (.iload_n 0, 1) := by decide +kernel
theorem dX7_right_1 : decode cX7_right 1 = .ok (.bipush 8, 2) := by decide +kernel
theorem dX7_right_3 : decode cX7_right 3 = .ok (.irem, 1) := by decide +kernel
theorem dX7_right_4 : decode cX7_right 4 = .ok (.bipush 7, 2) := by decide +kernel
theorem dX7_right_6 : decode cX7_right 6 = .ok (.if_icmp .ne 7, 3) := by decide +kernel
theorem dX7_right_9 : decode cX7_right 9 = .ok (.iconst (-1), 1) := by decide +kernel
theorem dX7_right_10 : decode cX7_right 10 = .ok (.goto 6, 3) := by decide +kernel
theorem dX7_right_13 : decode cX7_right 13 = .ok (.iload_n 0, 1) := by decide +kernel
theorem dX7_right_14 : decode cX7_right 14 = .ok (.iconst 1, 1) := by decide +kernel
theorem dX7_right_15 : decode cX7_right 15 = .ok (.iadd, 1) := by decide +kernel
theorem dX7_right_16 : decode cX7_right 16 = .ok (.ireturn, 1) := by decide +kernel
theorem dX7_isOf_0 : decode cX7_isOf 0 = .ok (.aload_n 0, 1) := by decide +kernel
theorem dX7_isOf_1 : decode cX7_isOf 1 = .ok (.iload_n 2, 1) := by decide +kernel
theorem dX7_isOf_2 : decode cX7_isOf 2 = .ok (.invokevirtual 75, 3) := by decide +kernel
theorem dX7_isOf_5 : decode cX7_isOf 5 = .ok (.istore_n 3, 1) := by decide +kernel
theorem dX7_isOf_6 : decode cX7_isOf 6 = .ok (.iload_n 3, 1) := by decide +kernel
theorem dX7_isOf_7 : decode cX7_isOf 7 = .ok (.ifCond .lt 15, 3) := by decide +kernel
theorem dX7_isOf_10 : decode cX7_isOf 10 = .ok (.iload_n 1, 1) := by decide +kernel
theorem dX7_isOf_11 : decode cX7_isOf 11 = .ok (.iload_n 3, 1) := by decide +kernel
theorem dX7_isOf_12 : decode cX7_isOf 12 = .ok (.invokestatic 83, 3) := by decide +kernel
theorem dX7_isOf_15 : decode cX7_isOf 15 = .ok (.ifCond .eq 7, 3) := by decide +kernel
theorem dX7_isOf_18 : decode cX7_isOf 18 = .ok (.iconst 1, 1) := by decide +kernel
theorem dX7_isOf_19 : decode cX7_isOf 19 = .ok (.goto 4, 3) := by decide +kernel
theorem dX7_isOf_22 : decode cX7_isOf 22 = .ok (.iconst 0, 1) := by decide +kernel
theorem dX7_isOf_23 : decode cX7_isOf 23 = .ok (.ireturn, 1) := by decide +kernel
theorem dX7_standsBy_0 : decode cX7_standsBy 0 = .ok (.aload_n 0, 1) := by decide +kernel
theorem dX7_standsBy_1 : decode cX7_standsBy 1 = .ok (.iload_n 1, 1) := by decide +kernel
theorem dX7_standsBy_2 : decode cX7_standsBy 2 = .ok (.invokevirtual 61, 3) := by decide +kernel
theorem dX7_standsBy_5 : decode cX7_standsBy 5 = .ok (.istore_n 3, 1) := by decide +kernel
theorem dX7_standsBy_6 : decode cX7_standsBy 6 = .ok (.iload_n 3, 1) := by decide +kernel
theorem dX7_standsBy_7 : decode cX7_standsBy 7 = .ok (.bipush 8, 2) := by decide +kernel
theorem dX7_standsBy_9 : decode cX7_standsBy 9 = .ok (.if_icmp .ge 5, 3) := by decide +kernel
theorem dX7_standsBy_12 : decode cX7_standsBy 12 = .ok (.iconst 1, 1) := by decide +kernel
theorem dX7_standsBy_13 : decode cX7_standsBy 13 = .ok (.ireturn, 1) := by decide +kernel
theorem dX7_standsBy_14 : decode cX7_standsBy 14 = .ok (.aload_n 0, 1) := by decide +kernel
theorem dX7_standsBy_15 : decode cX7_standsBy 15 = .ok (.iload_n 1, 1) := by decide +kernel
theorem dX7_standsBy_16 : decode cX7_standsBy 16 = .ok (.invokevirtual 87, 3) := by decide +kernel
theorem dX7_standsBy_19 : decode cX7_standsBy 19 = .ok (.bipush 6, 2) := by decide +kernel
theorem dX7_standsBy_21 : decode cX7_standsBy 21 = .ok (.if_icmp .ne 13, 3) := by decide +kernel
theorem dX7_standsBy_24 : decode cX7_standsBy 24 = .ok (.aload_n 0, 1) := by decide +kernel
theorem dX7_standsBy_25 : decode cX7_standsBy 25 = .ok (.iload_n 2, 1) := by decide +kernel
theorem dX7_standsBy_26 : decode cX7_standsBy 26 = .ok (.iload_n 3, 1) := by decide +kernel
theorem dX7_standsBy_27 : decode cX7_standsBy 27 = .ok (.invokestatic 90, 3) := by decide +kernel
theorem dX7_standsBy_30 : decode cX7_standsBy 30 = .ok (.invokevirtual 93, 3) := by decide +kernel
theorem dX7_standsBy_33 : decode cX7_standsBy 33 = .ok (.ireturn, 1) := by decide +kernel
theorem dX7_standsBy_34 : decode cX7_standsBy 34 = .ok (.aload_n 0, 1) := by decide +kernel
theorem dX7_standsBy_35 : decode cX7_standsBy 35 = .ok (.iload_n 2, 1) := by decide +kernel
theorem dX7_standsBy_36 : decode cX7_standsBy 36 = .ok (.iload_n 3, 1) := by decide +kernel
theorem dX7_standsBy_37 : decode cX7_standsBy 37 = .ok (.invokestatic 96, 3) := by decide +kernel
theorem dX7_standsBy_40 : decode cX7_standsBy 40 = .ok (.invokevirtual 93, 3) := by decide +kernel
theorem dX7_standsBy_43 : decode cX7_standsBy 43 = .ok (.istore 4, 2) := by decide +kernel
theorem dX7_standsBy_45 : decode cX7_standsBy 45 = .ok (.aload_n 0, 1) := by decide +kernel
theorem dX7_standsBy_46 : decode cX7_standsBy 46 = .ok (.iload_n 2, 1) := by decide +kernel
theorem dX7_standsBy_47 : decode cX7_standsBy 47 = .ok (.iload_n 3, 1) := by decide +kernel
theorem dX7_standsBy_48 : decode cX7_standsBy 48 = .ok (.invokestatic 99, 3) := by decide +kernel
theorem dX7_standsBy_51 : decode cX7_standsBy 51 = .ok (.invokevirtual 93, 3) := by decide +kernel
theorem dX7_standsBy_54 : decode cX7_standsBy 54 = .ok (.istore 5, 2) := by decide +kernel
theorem dX7_standsBy_56 : decode cX7_standsBy 56 = .ok (.aload_n 0, 1) := by decide +kernel
theorem dX7_standsBy_57 : decode cX7_standsBy 57 = .ok (.iload_n 1, 1) := by decide +kernel
theorem dX7_standsBy_58 : decode cX7_standsBy 58 = .ok (.invokevirtual 87, 3) := by decide +kernel
theorem dX7_standsBy_61 : decode cX7_standsBy 61 = .ok (.tableswitch 91 1 5 #[35, 63, 35, 91, 63], 35) := by decide +kernel
theorem dX7_standsBy_96 : decode cX7_standsBy 96 = .ok (.aload_n 0, 1) := by decide +kernel
theorem dX7_standsBy_97 : decode cX7_standsBy 97 = .ok (.iload_n 2, 1) := by decide +kernel
theorem dX7_standsBy_98 : decode cX7_standsBy 98 = .ok (.iload_n 3, 1) := by decide +kernel
theorem dX7_standsBy_99 : decode cX7_standsBy 99 = .ok (.invokestatic 102, 3) := by decide +kernel
theorem dX7_standsBy_102 : decode cX7_standsBy 102 = .ok (.invokevirtual 93, 3) := by decide +kernel
theorem dX7_standsBy_105 : decode cX7_standsBy 105 = .ok (.ifCond .ne 13, 3) := by decide +kernel
theorem dX7_standsBy_108 : decode cX7_standsBy 108 = .ok (.iload 4, 2) := by decide +kernel
theorem dX7_standsBy_110 : decode cX7_standsBy 110 = .ok (.ifCond .eq 12, 3) := by decide +kernel
theorem dX7_standsBy_113 : decode cX7_standsBy 113 = .ok (.iload 5, 2) := by decide +kernel
theorem dX7_standsBy_115 : decode cX7_standsBy 115 = .ok (.ifCond .eq 7, 3) := by decide +kernel
theorem dX7_standsBy_118 : decode cX7_standsBy 118 = .ok (.iconst 1, 1) := by decide +kernel
theorem dX7_standsBy_119 : decode cX7_standsBy 119 = .ok (.goto 4, 3) := by decide +kernel
theorem dX7_standsBy_122 : decode cX7_standsBy 122 = .ok (.iconst 0, 1) := by decide +kernel
theorem dX7_standsBy_123 : decode cX7_standsBy 123 = .ok (.ireturn, 1) := by decide +kernel
theorem dX7_standsBy_124 : decode cX7_standsBy 124 = .ok (.aload_n 0, 1) := by decide +kernel
theorem dX7_standsBy_125 : decode cX7_standsBy 125 = .ok (.iload_n 2, 1) := by decide +kernel
theorem dX7_standsBy_126 : decode cX7_standsBy 126 = .ok (.iload_n 3, 1) := by decide +kernel
theorem dX7_standsBy_127 : decode cX7_standsBy 127 = .ok (.invokestatic 102, 3) := by decide +kernel
theorem dX7_standsBy_130 : decode cX7_standsBy 130 = .ok (.invokevirtual 93, 3) := by decide +kernel
theorem dX7_standsBy_133 : decode cX7_standsBy 133 = .ok (.ifCond .ne 13, 3) := by decide +kernel
theorem dX7_standsBy_136 : decode cX7_standsBy 136 = .ok (.iload 4, 2) := by decide +kernel
theorem dX7_standsBy_138 : decode cX7_standsBy 138 = .ok (.ifCond .ne 8, 3) := by decide +kernel
theorem dX7_standsBy_141 : decode cX7_standsBy 141 = .ok (.iload 5, 2) := by decide +kernel
theorem dX7_standsBy_143 : decode cX7_standsBy 143 = .ok (.ifCond .eq 7, 3) := by decide +kernel
theorem dX7_standsBy_146 : decode cX7_standsBy 146 = .ok (.iconst 1, 1) := by decide +kernel
theorem dX7_standsBy_147 : decode cX7_standsBy 147 = .ok (.goto 4, 3) := by decide +kernel
theorem dX7_standsBy_150 : decode cX7_standsBy 150 = .ok (.iconst 0, 1) := by decide +kernel
theorem dX7_standsBy_151 : decode cX7_standsBy 151 = .ok (.ireturn, 1) := by decide +kernel
theorem dX7_standsBy_152 : decode cX7_standsBy 152 = .ok (.aload_n 0, 1) := by decide +kernel
theorem dX7_standsBy_153 : decode cX7_standsBy 153 = .ok (.iload_n 2, 1) := by decide +kernel
theorem dX7_standsBy_154 : decode cX7_standsBy 154 = .ok (.iload_n 3, 1) := by decide +kernel
theorem dX7_standsBy_155 : decode cX7_standsBy 155 = .ok (.invokestatic 102, 3) := by decide +kernel
theorem dX7_standsBy_158 : decode cX7_standsBy 158 = .ok (.invokevirtual 93, 3) := by decide +kernel
theorem dX7_standsBy_161 : decode cX7_standsBy 161 = .ok (.ireturn, 1) := by decide +kernel
theorem dX7_standing_0 : decode cX7_standing 0 = .ok (.iconst 0, 1) := by decide +kernel
theorem dX7_standing_1 : decode cX7_standing 1 = .ok (.istore_n 1, 1) := by decide +kernel
theorem dX7_standing_2 : decode cX7_standing 2 = .ok (.iconst (-1), 1) := by decide +kernel
theorem dX7_standing_3 : decode cX7_standing 3 = .ok (.istore_n 2, 1) := by decide +kernel
theorem dX7_standing_4 : decode cX7_standing 4 = .ok (.iload_n 1, 1) := by decide +kernel
theorem dX7_standing_5 : decode cX7_standing 5 = .ok (.iload_n 2, 1) := by decide +kernel
theorem dX7_standing_6 : decode cX7_standing 6 = .ok (.if_icmp .eq 53, 3) := by decide +kernel
theorem dX7_standing_9 : decode cX7_standing 9 = .ok (.iload_n 1, 1) := by decide +kernel
theorem dX7_standing_10 : decode cX7_standing 10 = .ok (.istore_n 2, 1) := by decide +kernel
theorem dX7_standing_11 : decode cX7_standing 11 = .ok (.iconst 0, 1) := by decide +kernel
theorem dX7_standing_12 : decode cX7_standing 12 = .ok (.istore_n 3, 1) := by decide +kernel
theorem dX7_standing_13 : decode cX7_standing 13 = .ok (.iload_n 3, 1) := by decide +kernel
theorem dX7_standing_14 : decode cX7_standing 14 = .ok (.aload_n 0, 1) := by decide +kernel
theorem dX7_standing_15 : decode cX7_standing 15 = .ok (.getfield 9, 3) := by decide +kernel
theorem dX7_standing_18 : decode cX7_standing 18 = .ok (.iconst 5, 1) := by decide +kernel
theorem dX7_standing_19 : decode cX7_standing 19 = .ok (.iaload, 1) := by decide +kernel
theorem dX7_standing_20 : decode cX7_standing 20 = .ok (.if_icmp .ge 36, 3) := by decide +kernel
theorem dX7_standing_23 : decode cX7_standing 23 = .ok (.iload_n 1, 1) := by decide +kernel
theorem dX7_standing_24 : decode cX7_standing 24 = .ok (.aload_n 0, 1) := by decide +kernel
theorem dX7_standing_25 : decode cX7_standing 25 = .ok (.iload_n 3, 1) := by decide +kernel
theorem dX7_standing_26 : decode cX7_standing 26 = .ok (.invokevirtual 105, 3) := by decide +kernel
theorem dX7_standing_29 : decode cX7_standing 29 = .ok (.ifCond .ne 18, 3) := by decide +kernel
theorem dX7_standing_32 : decode cX7_standing 32 = .ok (.aload_n 0, 1) := by decide +kernel
theorem dX7_standing_33 : decode cX7_standing 33 = .ok (.iload_n 3, 1) := by decide +kernel
theorem dX7_standing_34 : decode cX7_standing 34 = .ok (.iload_n 1, 1) := by decide +kernel
theorem dX7_standing_35 : decode cX7_standing 35 = .ok (.invokevirtual 108, 3) := by decide +kernel
theorem dX7_standing_38 : decode cX7_standing 38 = .ok (.ifCond .eq 9, 3) := by decide +kernel
theorem dX7_standing_41 : decode cX7_standing 41 = .ok (.iconst 1, 1) := by decide +kernel
theorem dX7_standing_42 : decode cX7_standing 42 = .ok (.iload_n 3, 1) := by decide +kernel
theorem dX7_standing_43 : decode cX7_standing 43 = .ok (.ishl, 1) := by decide +kernel
theorem dX7_standing_44 : decode cX7_standing 44 = .ok (.goto 4, 3) := by decide +kernel
theorem dX7_standing_47 : decode cX7_standing 47 = .ok (.iconst 0, 1) := by decide +kernel
theorem dX7_standing_48 : decode cX7_standing 48 = .ok (.ior, 1) := by decide +kernel
theorem dX7_standing_49 : decode cX7_standing 49 = .ok (.istore_n 1, 1) := by decide +kernel
theorem dX7_standing_50 : decode cX7_standing 50 = .ok (.iinc 3 1, 3) := by decide +kernel
theorem dX7_standing_53 : decode cX7_standing 53 = .ok (.goto (-40), 3) := by decide +kernel
theorem dX7_standing_56 : decode cX7_standing 56 = .ok (.goto (-52), 3) := by decide +kernel
theorem dX7_standing_59 : decode cX7_standing 59 = .ok (.iload_n 1, 1) := by decide +kernel
theorem dX7_standing_60 : decode cX7_standing 60 = .ok (.ireturn, 1) := by decide +kernel
theorem dX7_loadOf_0 : decode cX7_loadOf 0 = .ok (.iconst 0, 1) := by decide +kernel
theorem dX7_loadOf_1 : decode cX7_loadOf 1 = .ok (.istore_n 2, 1) := by decide +kernel
theorem dX7_loadOf_2 : decode cX7_loadOf 2 = .ok (.aload_n 0, 1) := by decide +kernel
theorem dX7_loadOf_3 : decode cX7_loadOf 3 = .ok (.iload_n 1, 1) := by decide +kernel
theorem dX7_loadOf_4 : decode cX7_loadOf 4 = .ok (.invokevirtual 61, 3) := by decide +kernel
theorem dX7_loadOf_7 : decode cX7_loadOf 7 = .ok (.invokestatic 90, 3) := by decide +kernel
theorem dX7_loadOf_10 : decode cX7_loadOf 10 = .ok (.istore_n 3, 1) := by decide +kernel
theorem dX7_loadOf_11 : decode cX7_loadOf 11 = .ok (.aload_n 0, 1) := by decide +kernel
theorem dX7_loadOf_12 : decode cX7_loadOf 12 = .ok (.iload_n 3, 1) := by decide +kernel
theorem dX7_loadOf_13 : decode cX7_loadOf 13 = .ok (.invokevirtual 75, 3) := by decide +kernel
theorem dX7_loadOf_16 : decode cX7_loadOf 16 = .ok (.ifCond .lt 23, 3) := by decide +kernel
theorem dX7_loadOf_19 : decode cX7_loadOf 19 = .ok (.iload_n 2, 1) := by decide +kernel
theorem dX7_loadOf_20 : decode cX7_loadOf 20 = .ok (.aload_n 0, 1) := by decide +kernel
theorem dX7_loadOf_21 : decode cX7_loadOf 21 = .ok (.aload_n 0, 1) := by decide +kernel
theorem dX7_loadOf_22 : decode cX7_loadOf 22 = .ok (.iload_n 3, 1) := by decide +kernel
theorem dX7_loadOf_23 : decode cX7_loadOf 23 = .ok (.invokevirtual 75, 3) := by decide +kernel
theorem dX7_loadOf_26 : decode cX7_loadOf 26 = .ok (.invokevirtual 111, 3) := by decide +kernel
theorem dX7_loadOf_29 : decode cX7_loadOf 29 = .ok (.iadd, 1) := by decide +kernel
theorem dX7_loadOf_30 : decode cX7_loadOf 30 = .ok (.istore_n 2, 1) := by decide +kernel
theorem dX7_loadOf_31 : decode cX7_loadOf 31 = .ok (.iload_n 3, 1) := by decide +kernel
theorem dX7_loadOf_32 : decode cX7_loadOf 32 = .ok (.invokestatic 90, 3) := by decide +kernel
theorem dX7_loadOf_35 : decode cX7_loadOf 35 = .ok (.istore_n 3, 1) := by decide +kernel
theorem dX7_loadOf_36 : decode cX7_loadOf 36 = .ok (.goto (-25), 3) := by decide +kernel
theorem dX7_loadOf_39 : decode cX7_loadOf 39 = .ok (.iload_n 2, 1) := by decide +kernel
theorem dX7_loadOf_40 : decode cX7_loadOf 40 = .ok (.ireturn, 1) := by decide +kernel
theorem dX7_strongOf_0 : decode cX7_strongOf 0 = .ok (.iconst 4, 1) := by decide +kernel
theorem dX7_strongOf_1 : decode cX7_strongOf 1 = .ok (.aload_n 0, 1) := by decide +kernel
theorem dX7_strongOf_2 : decode cX7_strongOf 2 = .ok (.iload_n 1, 1) := by decide +kernel
theorem dX7_strongOf_3 : decode cX7_strongOf 3 = .ok (.invokevirtual 111, 3) := by decide +kernel
theorem dX7_strongOf_6 : decode cX7_strongOf 6 = .ok (.imul, 1) := by decide +kernel
theorem dX7_strongOf_7 : decode cX7_strongOf 7 = .ok (.istore_n 2, 1) := by decide +kernel
theorem dX7_strongOf_8 : decode cX7_strongOf 8 = .ok (.aload_n 0, 1) := by decide +kernel
theorem dX7_strongOf_9 : decode cX7_strongOf 9 = .ok (.iload_n 1, 1) := by decide +kernel
theorem dX7_strongOf_10 : decode cX7_strongOf 10 = .ok (.invokevirtual 87, 3) := by decide +kernel
theorem dX7_strongOf_13 : decode cX7_strongOf 13 = .ok (.tableswitch 40 3 5 #[27, 32, 36], 27) := by decide +kernel
theorem dX7_strongOf_40 : decode cX7_strongOf 40 = .ok (.iload_n 2, 1) := by decide +kernel
theorem dX7_strongOf_41 : decode cX7_strongOf 41 = .ok (.bipush 20, 2) := by decide +kernel
theorem dX7_strongOf_43 : decode cX7_strongOf 43 = .ok (.iadd, 1) := by decide +kernel
theorem dX7_strongOf_44 : decode cX7_strongOf 44 = .ok (.ireturn, 1) := by decide +kernel
theorem dX7_strongOf_45 : decode cX7_strongOf 45 = .ok (.iconst 3, 1) := by decide +kernel
theorem dX7_strongOf_46 : decode cX7_strongOf 46 = .ok (.iload_n 2, 1) := by decide +kernel
theorem dX7_strongOf_47 : decode cX7_strongOf 47 = .ok (.imul, 1) := by decide +kernel
theorem dX7_strongOf_48 : decode cX7_strongOf 48 = .ok (.ireturn, 1) := by decide +kernel
theorem dX7_strongOf_49 : decode cX7_strongOf 49 = .ok (.iconst 2, 1) := by decide +kernel
theorem dX7_strongOf_50 : decode cX7_strongOf 50 = .ok (.iload_n 2, 1) := by decide +kernel
theorem dX7_strongOf_51 : decode cX7_strongOf 51 = .ok (.imul, 1) := by decide +kernel
theorem dX7_strongOf_52 : decode cX7_strongOf 52 = .ok (.ireturn, 1) := by decide +kernel
theorem dX7_strongOf_53 : decode cX7_strongOf 53 = .ok (.iload_n 2, 1) := by decide +kernel
theorem dX7_strongOf_54 : decode cX7_strongOf 54 = .ok (.ireturn, 1) := by decide +kernel
theorem dX7_blockOf_0 : decode cX7_blockOf 0 = .ok (.aload_n 0, 1) := by decide +kernel
theorem dX7_blockOf_1 : decode cX7_blockOf 1 = .ok (.iload_n 1, 1) := by decide +kernel
theorem dX7_blockOf_2 : decode cX7_blockOf 2 = .ok (.invokevirtual 114, 3) := by decide +kernel
theorem dX7_blockOf_5 : decode cX7_blockOf 5 = .ok (.ifCond .eq 15, 3) := by decide +kernel
theorem dX7_blockOf_8 : decode cX7_blockOf 8 = .ok (.iload_n 2, 1) := by decide +kernel
theorem dX7_blockOf_9 : decode cX7_blockOf 9 = .ok (.i2l, 1) := by decide +kernel
theorem dX7_blockOf_10 : decode cX7_blockOf 10 = .ok (.lconst 0, 1) := by decide +kernel
theorem dX7_blockOf_11 : decode cX7_blockOf 11 = .ok (.ldc2_w 57, 3) := by decide +kernel
theorem dX7_blockOf_14 : decode cX7_blockOf 14 = .ok (.invokestatic 51, 3) := by decide +kernel
theorem dX7_blockOf_17 : decode cX7_blockOf 17 = .ok (.ifCond .ne 10, 3) := by decide +kernel
theorem dX7_blockOf_20 : decode cX7_blockOf 20 = .ok (.aload_n 0, 1) := by decide +kernel
theorem dX7_blockOf_21 : decode cX7_blockOf 21 = .ok (.ldc 43, 2) := by decide +kernel
theorem dX7_blockOf_23 : decode cX7_blockOf 23 = .ok (.invokevirtual 45, 3) := by decide +kernel
theorem dX7_blockOf_26 : decode cX7_blockOf 26 = .ok (.ireturn, 1) := by decide +kernel
theorem dX7_blockOf_27 : decode cX7_blockOf 27 = .ok (.iload_n 2, 1) := by decide +kernel
theorem dX7_blockOf_28 : decode cX7_blockOf 28 = .ok (.tableswitch 107 0 5 #[40, 46, 52, 58, 72, 89], 40) := by decide +kernel
theorem dX7_blockOf_68 : decode cX7_blockOf 68 = .ok (.aload_n 0, 1) := by decide +kernel
theorem dX7_blockOf_69 : decode cX7_blockOf 69 = .ok (.iload_n 1, 1) := by decide +kernel
theorem dX7_blockOf_70 : decode cX7_blockOf 70 = .ok (.invokevirtual 87, 3) := by decide +kernel
theorem dX7_blockOf_73 : decode cX7_blockOf 73 = .ok (.ireturn, 1) := by decide +kernel
theorem dX7_blockOf_74 : decode cX7_blockOf 74 = .ok (.aload_n 0, 1) := by decide +kernel
theorem dX7_blockOf_75 : decode cX7_blockOf 75 = .ok (.iload_n 1, 1) := by decide +kernel
theorem dX7_blockOf_76 : decode cX7_blockOf 76 = .ok (.invokevirtual 61, 3) := by decide +kernel
theorem dX7_blockOf_79 : decode cX7_blockOf 79 = .ok (.ireturn, 1) := by decide +kernel
theorem dX7_blockOf_80 : decode cX7_blockOf 80 = .ok (.aload_n 0, 1) := by decide +kernel
theorem dX7_blockOf_81 : decode cX7_blockOf 81 = .ok (.iload_n 1, 1) := by decide +kernel
theorem dX7_blockOf_82 : decode cX7_blockOf 82 = .ok (.invokevirtual 111, 3) := by decide +kernel
theorem dX7_blockOf_85 : decode cX7_blockOf 85 = .ok (.ireturn, 1) := by decide +kernel
theorem dX7_blockOf_86 : decode cX7_blockOf 86 = .ok (.aload_n 0, 1) := by decide +kernel
theorem dX7_blockOf_87 : decode cX7_blockOf 87 = .ok (.iload_n 1, 1) := by decide +kernel
theorem dX7_blockOf_88 : decode cX7_blockOf 88 = .ok (.invokevirtual 105, 3) := by decide +kernel
theorem dX7_blockOf_91 : decode cX7_blockOf 91 = .ok (.ifCond .eq 7, 3) := by decide +kernel
theorem dX7_blockOf_94 : decode cX7_blockOf 94 = .ok (.iconst 1, 1) := by decide +kernel
theorem dX7_blockOf_95 : decode cX7_blockOf 95 = .ok (.goto 4, 3) := by decide +kernel
theorem dX7_blockOf_98 : decode cX7_blockOf 98 = .ok (.iconst 0, 1) := by decide +kernel
theorem dX7_blockOf_99 : decode cX7_blockOf 99 = .ok (.ireturn, 1) := by decide +kernel
theorem dX7_blockOf_100 : decode cX7_blockOf 100 = .ok (.aload_n 0, 1) := by decide +kernel
theorem dX7_blockOf_101 : decode cX7_blockOf 101 = .ok (.invokevirtual 117, 3) := by decide +kernel
theorem dX7_blockOf_104 : decode cX7_blockOf 104 = .ok (.iload_n 1, 1) := by decide +kernel
theorem dX7_blockOf_105 : decode cX7_blockOf 105 = .ok (.invokestatic 83, 3) := by decide +kernel
theorem dX7_blockOf_108 : decode cX7_blockOf 108 = .ok (.ifCond .eq 7, 3) := by decide +kernel
theorem dX7_blockOf_111 : decode cX7_blockOf 111 = .ok (.iconst 1, 1) := by decide +kernel
theorem dX7_blockOf_112 : decode cX7_blockOf 112 = .ok (.goto 4, 3) := by decide +kernel
theorem dX7_blockOf_115 : decode cX7_blockOf 115 = .ok (.iconst 0, 1) := by decide +kernel
theorem dX7_blockOf_116 : decode cX7_blockOf 116 = .ok (.ireturn, 1) := by decide +kernel
theorem dX7_blockOf_117 : decode cX7_blockOf 117 = .ok (.aload_n 0, 1) := by decide +kernel
theorem dX7_blockOf_118 : decode cX7_blockOf 118 = .ok (.iload_n 1, 1) := by decide +kernel
theorem dX7_blockOf_119 : decode cX7_blockOf 119 = .ok (.invokevirtual 105, 3) := by decide +kernel
theorem dX7_blockOf_122 : decode cX7_blockOf 122 = .ok (.ifCond .eq 7, 3) := by decide +kernel
theorem dX7_blockOf_125 : decode cX7_blockOf 125 = .ok (.iconst 0, 1) := by decide +kernel
theorem dX7_blockOf_126 : decode cX7_blockOf 126 = .ok (.goto 8, 3) := by decide +kernel
theorem dX7_blockOf_129 : decode cX7_blockOf 129 = .ok (.aload_n 0, 1) := by decide +kernel
theorem dX7_blockOf_130 : decode cX7_blockOf 130 = .ok (.iload_n 1, 1) := by decide +kernel
theorem dX7_blockOf_131 : decode cX7_blockOf 131 = .ok (.invokevirtual 121, 3) := by decide +kernel
theorem dX7_blockOf_134 : decode cX7_blockOf 134 = .ok (.ireturn, 1) := by decide +kernel
theorem dX7_blockOf_135 : decode cX7_blockOf 135 = .ok (.aload_n 0, 1) := by decide +kernel
theorem dX7_blockOf_136 : decode cX7_blockOf 136 = .ok (.iload_n 1, 1) := by decide +kernel
theorem dX7_blockOf_137 : decode cX7_blockOf 137 = .ok (.invokevirtual 105, 3) := by decide +kernel
theorem dX7_blockOf_140 : decode cX7_blockOf 140 = .ok (.ifCond .eq 7, 3) := by decide +kernel
theorem dX7_blockOf_143 : decode cX7_blockOf 143 = .ok (.iconst 0, 1) := by decide +kernel
theorem dX7_blockOf_144 : decode cX7_blockOf 144 = .ok (.goto 8, 3) := by decide +kernel
theorem dX7_blockOf_147 : decode cX7_blockOf 147 = .ok (.aload_n 0, 1) := by decide +kernel
theorem dX7_blockOf_148 : decode cX7_blockOf 148 = .ok (.iload_n 1, 1) := by decide +kernel
theorem dX7_blockOf_149 : decode cX7_blockOf 149 = .ok (.invokevirtual 124, 3) := by decide +kernel
theorem dX7_blockOf_152 : decode cX7_blockOf 152 = .ok (.ireturn, 1) := by decide +kernel
theorem dX7_turn_0 : decode cX7_turn 0 = .ok (.aload_n 0, 1) := by decide +kernel
theorem dX7_turn_1 : decode cX7_turn 1 = .ok (.iload_n 1, 1) := by decide +kernel
theorem dX7_turn_2 : decode cX7_turn 2 = .ok (.invokevirtual 114, 3) := by decide +kernel
theorem dX7_turn_5 : decode cX7_turn 5 = .ok (.ifCond .eq 24, 3) := by decide +kernel
theorem dX7_turn_8 : decode cX7_turn 8 = .ok (.iload_n 2, 1) := by decide +kernel
theorem dX7_turn_9 : decode cX7_turn 9 = .ok (.invokestatic 64, 3) := by decide +kernel
theorem dX7_turn_12 : decode cX7_turn 12 = .ok (.ifCond .eq 17, 3) := by decide +kernel
theorem dX7_turn_15 : decode cX7_turn 15 = .ok (.aload_n 0, 1) := by decide +kernel
theorem dX7_turn_16 : decode cX7_turn 16 = .ok (.bipush 24, 2) := by decide +kernel
theorem dX7_turn_18 : decode cX7_turn 18 = .ok (.iconst 3, 1) := by decide +kernel
theorem dX7_turn_19 : decode cX7_turn 19 = .ok (.iload_n 1, 1) := by decide +kernel
theorem dX7_turn_20 : decode cX7_turn 20 = .ok (.imul, 1) := by decide +kernel
theorem dX7_turn_21 : decode cX7_turn 21 = .ok (.iadd, 1) := by decide +kernel
theorem dX7_turn_22 : decode cX7_turn 22 = .ok (.iload_n 2, 1) := by decide +kernel
theorem dX7_turn_23 : decode cX7_turn 23 = .ok (.invokevirtual 127, 3) := by decide +kernel
theorem dX7_turn_26 : decode cX7_turn 26 = .ok (.goto 9, 3) := by decide +kernel
theorem dX7_turn_29 : decode cX7_turn 29 = .ok (.aload_n 0, 1) := by decide +kernel
theorem dX7_turn_30 : decode cX7_turn 30 = .ok (.ldc 43, 2) := by decide +kernel
theorem dX7_turn_32 : decode cX7_turn 32 = .ok (.invokevirtual 45, 3) := by decide +kernel
theorem dX7_turn_35 : decode cX7_turn 35 = .ok (.ireturn, 1) := by decide +kernel
theorem dX7_take_0 : decode cX7_take 0 = .ok (.aload_n 0, 1) := by decide +kernel
theorem dX7_take_1 : decode cX7_take 1 = .ok (.iload_n 1, 1) := by decide +kernel
theorem dX7_take_2 : decode cX7_take 2 = .ok (.invokevirtual 114, 3) := by decide +kernel
theorem dX7_take_5 : decode cX7_take 5 = .ok (.ifCond .eq 10, 3) := by decide +kernel
theorem dX7_take_8 : decode cX7_take 8 = .ok (.iload_n 2, 1) := by decide +kernel
theorem dX7_take_9 : decode cX7_take 9 = .ok (.invokestatic 68, 3) := by decide +kernel
theorem dX7_take_12 : decode cX7_take 12 = .ok (.ifCond .ne 10, 3) := by decide +kernel
theorem dX7_take_15 : decode cX7_take 15 = .ok (.aload_n 0, 1) := by decide +kernel
theorem dX7_take_16 : decode cX7_take 16 = .ok (.ldc 43, 2) := by decide +kernel
theorem dX7_take_18 : decode cX7_take 18 = .ok (.invokevirtual 45, 3) := by decide +kernel
theorem dX7_take_21 : decode cX7_take 21 = .ok (.ireturn, 1) := by decide +kernel
theorem dX7_take_22 : decode cX7_take 22 = .ok (.aload_n 0, 1) := by decide +kernel
theorem dX7_take_23 : decode cX7_take 23 = .ok (.iload_n 2, 1) := by decide +kernel
theorem dX7_take_24 : decode cX7_take 24 = .ok (.invokevirtual 75, 3) := by decide +kernel
theorem dX7_take_27 : decode cX7_take 27 = .ok (.istore_n 3, 1) := by decide +kernel
theorem dX7_take_28 : decode cX7_take 28 = .ok (.aload_n 0, 1) := by decide +kernel
theorem dX7_take_29 : decode cX7_take 29 = .ok (.iload_n 1, 1) := by decide +kernel
theorem dX7_take_30 : decode cX7_take 30 = .ok (.invokevirtual 105, 3) := by decide +kernel
theorem dX7_take_33 : decode cX7_take 33 = .ok (.ifCond .ne 12, 3) := by decide +kernel
theorem dX7_take_36 : decode cX7_take 36 = .ok (.iload_n 3, 1) := by decide +kernel
theorem dX7_take_37 : decode cX7_take 37 = .ok (.ifCond .lt 15, 3) := by decide +kernel
theorem dX7_take_40 : decode cX7_take 40 = .ok (.iload_n 3, 1) := by decide +kernel
theorem dX7_take_41 : decode cX7_take 41 = .ok (.iload_n 1, 1) := by decide +kernel
theorem dX7_take_42 : decode cX7_take 42 = .ok (.if_icmp .eq 10, 3) := by decide +kernel
theorem dX7_take_45 : decode cX7_take 45 = .ok (.aload_n 0, 1) := by decide +kernel
theorem dX7_take_46 : decode cX7_take 46 = .ok (.ldc 78, 2) := by decide +kernel
theorem dX7_take_48 : decode cX7_take 48 = .ok (.invokevirtual 45, 3) := by decide +kernel
theorem dX7_take_51 : decode cX7_take 51 = .ok (.ireturn, 1) := by decide +kernel
theorem dX7_take_52 : decode cX7_take 52 = .ok (.aload_n 0, 1) := by decide +kernel
theorem dX7_take_53 : decode cX7_take 53 = .ok (.bipush 24, 2) := by decide +kernel
theorem dX7_take_55 : decode cX7_take 55 = .ok (.iconst 3, 1) := by decide +kernel
theorem dX7_take_56 : decode cX7_take 56 = .ok (.iload_n 1, 1) := by decide +kernel
theorem dX7_take_57 : decode cX7_take 57 = .ok (.imul, 1) := by decide +kernel
theorem dX7_take_58 : decode cX7_take 58 = .ok (.iadd, 1) := by decide +kernel
theorem dX7_take_59 : decode cX7_take 59 = .ok (.iconst 1, 1) := by decide +kernel
theorem dX7_take_60 : decode cX7_take 60 = .ok (.iadd, 1) := by decide +kernel
theorem dX7_take_61 : decode cX7_take 61 = .ok (.iload_n 2, 1) := by decide +kernel
theorem dX7_take_62 : decode cX7_take 62 = .ok (.invokevirtual 127, 3) := by decide +kernel
theorem dX7_take_65 : decode cX7_take 65 = .ok (.ireturn, 1) := by decide +kernel
theorem dX7_on_0 : decode cX7_on 0 = .ok (.iload_n 1, 1) := by decide +kernel
theorem dX7_on_1 : decode cX7_on 1 = .ok (.invokestatic 68, 3) := by decide +kernel
theorem dX7_on_4 : decode cX7_on 4 = .ok (.ifCond .eq 11, 3) := by decide +kernel
theorem dX7_on_7 : decode cX7_on 7 = .ok (.aload_n 0, 1) := by decide +kernel
theorem dX7_on_8 : decode cX7_on 8 = .ok (.iload_n 1, 1) := by decide +kernel
theorem dX7_on_9 : decode cX7_on 9 = .ok (.invokevirtual 75, 3) := by decide +kernel
theorem dX7_on_12 : decode cX7_on 12 = .ok (.goto 9, 3) := by decide +kernel
theorem dX7_on_15 : decode cX7_on 15 = .ok (.aload_n 0, 1) := by decide +kernel
theorem dX7_on_16 : decode cX7_on 16 = .ok (.ldc 43, 2) := by decide +kernel
theorem dX7_on_18 : decode cX7_on 18 = .ok (.invokevirtual 45, 3) := by decide +kernel
theorem dX7_on_21 : decode cX7_on 21 = .ok (.ireturn, 1) := by decide +kernel
theorem dX7_distance_0 : decode cX7_distance 0 = .ok (.iload_n 0, 1) := by decide +kernel
theorem dX7_distance_1 : decode cX7_distance 1 = .ok (.bipush 8, 2) := by decide +kernel
theorem dX7_distance_3 : decode cX7_distance 3 = .ok (.idiv, 1) := by decide +kernel
theorem dX7_distance_4 : decode cX7_distance 4 = .ok (.iload_n 1, 1) := by decide +kernel
theorem dX7_distance_5 : decode cX7_distance 5 = .ok (.bipush 8, 2) := by decide +kernel
theorem dX7_distance_7 : decode cX7_distance 7 = .ok (.idiv, 1) := by decide +kernel
theorem dX7_distance_8 : decode cX7_distance 8 = .ok (.isub, 1) := by decide +kernel
theorem dX7_distance_9 : decode cX7_distance 9 = .ok (.istore_n 2, 1) := by decide +kernel
theorem dX7_distance_10 : decode cX7_distance 10 = .ok (.iload_n 0, 1) := by decide +kernel
theorem dX7_distance_11 : decode cX7_distance 11 = .ok (.bipush 8, 2) := by decide +kernel
theorem dX7_distance_13 : decode cX7_distance 13 = .ok (.irem, 1) := by decide +kernel
theorem dX7_distance_14 : decode cX7_distance 14 = .ok (.iload_n 1, 1) := by decide +kernel
theorem dX7_distance_15 : decode cX7_distance 15 = .ok (.bipush 8, 2) := by decide +kernel
theorem dX7_distance_17 : decode cX7_distance 17 = .ok (.irem, 1) := by decide +kernel
theorem dX7_distance_18 : decode cX7_distance 18 = .ok (.isub, 1) := by decide +kernel
theorem dX7_distance_19 : decode cX7_distance 19 = .ok (.istore_n 3, 1) := by decide +kernel
theorem dX7_distance_20 : decode cX7_distance 20 = .ok (.iload_n 2, 1) := by decide +kernel
theorem dX7_distance_21 : decode cX7_distance 21 = .ok (.ifCond .ge 8, 3) := by decide +kernel
theorem dX7_distance_24 : decode cX7_distance 24 = .ok (.iload_n 2, 1) := by decide +kernel
theorem dX7_distance_25 : decode cX7_distance 25 = .ok (.ineg, 1) := by decide +kernel
theorem dX7_distance_26 : decode cX7_distance 26 = .ok (.goto 4, 3) := by decide +kernel
theorem dX7_distance_29 : decode cX7_distance 29 = .ok (.iload_n 2, 1) := by decide +kernel
theorem dX7_distance_30 : decode cX7_distance 30 = .ok (.iload_n 3, 1) := by decide +kernel
theorem dX7_distance_31 : decode cX7_distance 31 = .ok (.ifCond .ge 8, 3) := by decide +kernel
theorem dX7_distance_34 : decode cX7_distance 34 = .ok (.iload_n 3, 1) := by decide +kernel
theorem dX7_distance_35 : decode cX7_distance 35 = .ok (.ineg, 1) := by decide +kernel
theorem dX7_distance_36 : decode cX7_distance 36 = .ok (.goto 4, 3) := by decide +kernel
theorem dX7_distance_39 : decode cX7_distance 39 = .ok (.iload_n 3, 1) := by decide +kernel
theorem dX7_distance_40 : decode cX7_distance 40 = .ok (.iadd, 1) := by decide +kernel
theorem dX7_distance_41 : decode cX7_distance 41 = .ok (.ireturn, 1) := by decide +kernel
theorem dX7_isLit_0 : decode cX7_isLit 0 = .ok (.aload_n 0, 1) := by decide +kernel
theorem dX7_isLit_1 : decode cX7_isLit 1 = .ok (.getfield 9, 3) := by decide +kernel
theorem dX7_isLit_4 : decode cX7_isLit 4 = .ok (.bipush 6, 2) := by decide +kernel
theorem dX7_isLit_6 : decode cX7_isLit 6 = .ok (.iconst 3, 1) := by decide +kernel
theorem dX7_isLit_7 : decode cX7_isLit 7 = .ok (.iload_n 1, 1) := by decide +kernel
theorem dX7_isLit_8 : decode cX7_isLit 8 = .ok (.imul, 1) := by decide +kernel
theorem dX7_isLit_9 : decode cX7_isLit 9 = .ok (.iadd, 1) := by decide +kernel
theorem dX7_isLit_10 : decode cX7_isLit 10 = .ok (.iconst 2, 1) := by decide +kernel
theorem dX7_isLit_11 : decode cX7_isLit 11 = .ok (.iadd, 1) := by decide +kernel
theorem dX7_isLit_12 : decode cX7_isLit 12 = .ok (.iaload, 1) := by decide +kernel
theorem dX7_isLit_13 : decode cX7_isLit 13 = .ok (.iconst 1, 1) := by decide +kernel
theorem dX7_isLit_14 : decode cX7_isLit 14 = .ok (.if_icmp .ne 7, 3) := by decide +kernel
theorem dX7_isLit_17 : decode cX7_isLit 17 = .ok (.iconst 1, 1) := by decide +kernel
theorem dX7_isLit_18 : decode cX7_isLit 18 = .ok (.goto 4, 3) := by decide +kernel
theorem dX7_isLit_21 : decode cX7_isLit 21 = .ok (.iconst 0, 1) := by decide +kernel
theorem dX7_isLit_22 : decode cX7_isLit 22 = .ok (.ireturn, 1) := by decide +kernel
theorem dX7_warmthOf_0 : decode cX7_warmthOf 0 = .ok (.aload_n 0, 1) := by decide +kernel
theorem dX7_warmthOf_1 : decode cX7_warmthOf 1 = .ok (.getfield 9, 3) := by decide +kernel
theorem dX7_warmthOf_4 : decode cX7_warmthOf 4 = .ok (.iconst 1, 1) := by decide +kernel
theorem dX7_warmthOf_5 : decode cX7_warmthOf 5 = .ok (.iaload, 1) := by decide +kernel
theorem dX7_warmthOf_6 : decode cX7_warmthOf 6 = .ok (.istore_n 2, 1) := by decide +kernel
theorem dX7_warmthOf_7 : decode cX7_warmthOf 7 = .ok (.iconst 0, 1) := by decide +kernel
theorem dX7_warmthOf_8 : decode cX7_warmthOf 8 = .ok (.istore_n 3, 1) := by decide +kernel
theorem dX7_warmthOf_9 : decode cX7_warmthOf 9 = .ok (.iload_n 3, 1) := by decide +kernel
theorem dX7_warmthOf_10 : decode cX7_warmthOf 10 = .ok (.bipush 6, 2) := by decide +kernel
theorem dX7_warmthOf_12 : decode cX7_warmthOf 12 = .ok (.if_icmp .ge 55, 3) := by decide +kernel
theorem dX7_warmthOf_15 : decode cX7_warmthOf 15 = .ok (.iload_n 2, 1) := by decide +kernel
theorem dX7_warmthOf_16 : decode cX7_warmthOf 16 = .ok (.aload_n 0, 1) := by decide +kernel
theorem dX7_warmthOf_17 : decode cX7_warmthOf 17 = .ok (.iload_n 3, 1) := by decide +kernel
theorem dX7_warmthOf_18 : decode cX7_warmthOf 18 = .ok (.invokevirtual 131, 3) := by decide +kernel
theorem dX7_warmthOf_21 : decode cX7_warmthOf 21 = .ok (.ifCond .eq 37, 3) := by decide +kernel
theorem dX7_warmthOf_24 : decode cX7_warmthOf 24 = .ok (.aload_n 0, 1) := by decide +kernel
theorem dX7_warmthOf_25 : decode cX7_warmthOf 25 = .ok (.getfield 9, 3) := by decide +kernel
theorem dX7_warmthOf_28 : decode cX7_warmthOf 28 = .ok (.bipush 6, 2) := by decide +kernel
theorem dX7_warmthOf_30 : decode cX7_warmthOf 30 = .ok (.iconst 3, 1) := by decide +kernel
theorem dX7_warmthOf_31 : decode cX7_warmthOf 31 = .ok (.iload_n 3, 1) := by decide +kernel
theorem dX7_warmthOf_32 : decode cX7_warmthOf 32 = .ok (.imul, 1) := by decide +kernel
theorem dX7_warmthOf_33 : decode cX7_warmthOf 33 = .ok (.iadd, 1) := by decide +kernel
theorem dX7_warmthOf_34 : decode cX7_warmthOf 34 = .ok (.iconst 1, 1) := by decide +kernel
theorem dX7_warmthOf_35 : decode cX7_warmthOf 35 = .ok (.iadd, 1) := by decide +kernel
theorem dX7_warmthOf_36 : decode cX7_warmthOf 36 = .ok (.iaload, 1) := by decide +kernel
theorem dX7_warmthOf_37 : decode cX7_warmthOf 37 = .ok (.iload_n 1, 1) := by decide +kernel
theorem dX7_warmthOf_38 : decode cX7_warmthOf 38 = .ok (.aload_n 0, 1) := by decide +kernel
theorem dX7_warmthOf_39 : decode cX7_warmthOf 39 = .ok (.getfield 9, 3) := by decide +kernel
theorem dX7_warmthOf_42 : decode cX7_warmthOf 42 = .ok (.bipush 6, 2) := by decide +kernel
theorem dX7_warmthOf_44 : decode cX7_warmthOf 44 = .ok (.iconst 3, 1) := by decide +kernel
theorem dX7_warmthOf_45 : decode cX7_warmthOf 45 = .ok (.iload_n 3, 1) := by decide +kernel
theorem dX7_warmthOf_46 : decode cX7_warmthOf 46 = .ok (.imul, 1) := by decide +kernel
theorem dX7_warmthOf_47 : decode cX7_warmthOf 47 = .ok (.iadd, 1) := by decide +kernel
theorem dX7_warmthOf_48 : decode cX7_warmthOf 48 = .ok (.iaload, 1) := by decide +kernel
theorem dX7_warmthOf_49 : decode cX7_warmthOf 49 = .ok (.invokestatic 134, 3) := by decide +kernel
theorem dX7_warmthOf_52 : decode cX7_warmthOf 52 = .ok (.iconst 1, 1) := by decide +kernel
theorem dX7_warmthOf_53 : decode cX7_warmthOf 53 = .ok (.iadd, 1) := by decide +kernel
theorem dX7_warmthOf_54 : decode cX7_warmthOf 54 = .ok (.idiv, 1) := by decide +kernel
theorem dX7_warmthOf_55 : decode cX7_warmthOf 55 = .ok (.goto 4, 3) := by decide +kernel
theorem dX7_warmthOf_58 : decode cX7_warmthOf 58 = .ok (.iconst 0, 1) := by decide +kernel
theorem dX7_warmthOf_59 : decode cX7_warmthOf 59 = .ok (.iadd, 1) := by decide +kernel
theorem dX7_warmthOf_60 : decode cX7_warmthOf 60 = .ok (.istore_n 2, 1) := by decide +kernel
theorem dX7_warmthOf_61 : decode cX7_warmthOf 61 = .ok (.iinc 3 1, 3) := by decide +kernel
theorem dX7_warmthOf_64 : decode cX7_warmthOf 64 = .ok (.goto (-55), 3) := by decide +kernel
theorem dX7_warmthOf_67 : decode cX7_warmthOf 67 = .ok (.iload_n 2, 1) := by decide +kernel
theorem dX7_warmthOf_68 : decode cX7_warmthOf 68 = .ok (.ireturn, 1) := by decide +kernel
theorem dX7_water_0 : decode cX7_water 0 = .ok (.aload_n 0, 1) := by decide +kernel
theorem dX7_water_1 : decode cX7_water 1 = .ok (.iload_n 1, 1) := by decide +kernel
theorem dX7_water_2 : decode cX7_water 2 = .ok (.invokevirtual 114, 3) := by decide +kernel
theorem dX7_water_5 : decode cX7_water 5 = .ok (.ifCond .eq 10, 3) := by decide +kernel
theorem dX7_water_8 : decode cX7_water 8 = .ok (.iload_n 2, 1) := by decide +kernel
theorem dX7_water_9 : decode cX7_water 9 = .ok (.invokestatic 71, 3) := by decide +kernel
theorem dX7_water_12 : decode cX7_water 12 = .ok (.ifCond .ne 10, 3) := by decide +kernel
theorem dX7_water_15 : decode cX7_water 15 = .ok (.aload_n 0, 1) := by decide +kernel
theorem dX7_water_16 : decode cX7_water 16 = .ok (.ldc 43, 2) := by decide +kernel
theorem dX7_water_18 : decode cX7_water 18 = .ok (.invokevirtual 45, 3) := by decide +kernel
theorem dX7_water_21 : decode cX7_water 21 = .ok (.ireturn, 1) := by decide +kernel
theorem dX7_water_22 : decode cX7_water 22 = .ok (.aload_n 0, 1) := by decide +kernel
theorem dX7_water_23 : decode cX7_water 23 = .ok (.iload_n 1, 1) := by decide +kernel
theorem dX7_water_24 : decode cX7_water 24 = .ok (.invokevirtual 105, 3) := by decide +kernel
theorem dX7_water_27 : decode cX7_water 27 = .ok (.ifCond .ne 15, 3) := by decide +kernel
theorem dX7_water_30 : decode cX7_water 30 = .ok (.aload_n 0, 1) := by decide +kernel
theorem dX7_water_31 : decode cX7_water 31 = .ok (.aload_n 0, 1) := by decide +kernel
theorem dX7_water_32 : decode cX7_water 32 = .ok (.iload_n 1, 1) := by decide +kernel
theorem dX7_water_33 : decode cX7_water 33 = .ok (.invokevirtual 61, 3) := by decide +kernel
theorem dX7_water_36 : decode cX7_water 36 = .ok (.invokevirtual 137, 3) := by decide +kernel
theorem dX7_water_39 : decode cX7_water 39 = .ok (.ifCond .lt 10, 3) := by decide +kernel
theorem dX7_water_42 : decode cX7_water 42 = .ok (.aload_n 0, 1) := by decide +kernel
theorem dX7_water_43 : decode cX7_water 43 = .ok (.ldc 78, 2) := by decide +kernel
theorem dX7_water_45 : decode cX7_water 45 = .ok (.invokevirtual 45, 3) := by decide +kernel
theorem dX7_water_48 : decode cX7_water 48 = .ok (.ireturn, 1) := by decide +kernel
theorem dX7_water_49 : decode cX7_water 49 = .ok (.bipush 99, 2) := by decide +kernel
theorem dX7_water_51 : decode cX7_water 51 = .ok (.aload_n 0, 1) := by decide +kernel
theorem dX7_water_52 : decode cX7_water 52 = .ok (.iload_n 1, 1) := by decide +kernel
theorem dX7_water_53 : decode cX7_water 53 = .ok (.invokevirtual 111, 3) := by decide +kernel
theorem dX7_water_56 : decode cX7_water 56 = .ok (.isub, 1) := by decide +kernel
theorem dX7_water_57 : decode cX7_water 57 = .ok (.istore_n 3, 1) := by decide +kernel
theorem dX7_water_58 : decode cX7_water 58 = .ok (.iload_n 2, 1) := by decide +kernel
theorem dX7_water_59 : decode cX7_water 59 = .ok (.iload_n 3, 1) := by decide +kernel
theorem dX7_water_60 : decode cX7_water 60 = .ok (.if_icmp .ge 7, 3) := by decide +kernel
theorem dX7_water_63 : decode cX7_water 63 = .ok (.iload_n 2, 1) := by decide +kernel
theorem dX7_water_64 : decode cX7_water 64 = .ok (.goto 4, 3) := by decide +kernel
theorem dX7_water_67 : decode cX7_water 67 = .ok (.iload_n 3, 1) := by decide +kernel
theorem dX7_water_68 : decode cX7_water 68 = .ok (.istore 4, 2) := by decide +kernel
theorem dX7_water_70 : decode cX7_water 70 = .ok (.aload_n 0, 1) := by decide +kernel
theorem dX7_water_71 : decode cX7_water 71 = .ok (.iload_n 1, 1) := by decide +kernel
theorem dX7_water_72 : decode cX7_water 72 = .ok (.aload_n 0, 1) := by decide +kernel
theorem dX7_water_73 : decode cX7_water 73 = .ok (.iload_n 1, 1) := by decide +kernel
theorem dX7_water_74 : decode cX7_water 74 = .ok (.invokevirtual 111, 3) := by decide +kernel
theorem dX7_water_77 : decode cX7_water 77 = .ok (.iload 4, 2) := by decide +kernel
theorem dX7_water_79 : decode cX7_water 79 = .ok (.iadd, 1) := by decide +kernel
theorem dX7_water_80 : decode cX7_water 80 = .ok (.invokevirtual 140, 3) := by decide +kernel
theorem dX7_water_83 : decode cX7_water 83 = .ok (.iload 4, 2) := by decide +kernel
theorem dX7_water_85 : decode cX7_water 85 = .ok (.ireturn, 1) := by decide +kernel
theorem dX7_candle_0 : decode cX7_candle 0 = .ok (.iload_n 2, 1) := by decide +kernel
theorem dX7_candle_1 : decode cX7_candle 1 = .ok (.ifCond .ne 10, 3) := by decide +kernel
theorem dX7_candle_4 : decode cX7_candle 4 = .ok (.iload_n 3, 1) := by decide +kernel
theorem dX7_candle_5 : decode cX7_candle 5 = .ok (.invokestatic 68, 3) := by decide +kernel
theorem dX7_candle_8 : decode cX7_candle 8 = .ok (.goto 25, 3) := by decide +kernel
theorem dX7_candle_11 : decode cX7_candle 11 = .ok (.iload_n 2, 1) := by decide +kernel
theorem dX7_candle_12 : decode cX7_candle 12 = .ok (.iconst 1, 1) := by decide +kernel
theorem dX7_candle_13 : decode cX7_candle 13 = .ok (.if_icmp .ne 19, 3) := by decide +kernel
theorem dX7_candle_16 : decode cX7_candle 16 = .ok (.iload_n 3, 1) := by decide +kernel
theorem dX7_candle_17 : decode cX7_candle 17 = .ok (.i2l, 1) := by decide +kernel
theorem dX7_candle_18 : decode cX7_candle 18 = .ok (.lconst 0, 1) := by decide +kernel
theorem dX7_candle_19 : decode cX7_candle 19 = .ok (.ldc2_w 144, 3) := by decide +kernel
theorem dX7_candle_22 : decode cX7_candle 22 = .ok (.invokestatic 51, 3) := by decide +kernel
theorem dX7_candle_25 : decode cX7_candle 25 = .ok (.ifCond .eq 7, 3) := by decide +kernel
theorem dX7_candle_28 : decode cX7_candle 28 = .ok (.iconst 1, 1) := by decide +kernel
theorem dX7_candle_29 : decode cX7_candle 29 = .ok (.goto 4, 3) := by decide +kernel
theorem dX7_candle_32 : decode cX7_candle 32 = .ok (.iconst 0, 1) := by decide +kernel
theorem dX7_candle_33 : decode cX7_candle 33 = .ok (.istore 4, 2) := by decide +kernel
theorem dX7_candle_35 : decode cX7_candle 35 = .ok (.iload_n 1, 1) := by decide +kernel
theorem dX7_candle_36 : decode cX7_candle 36 = .ok (.invokestatic 146, 3) := by decide +kernel
theorem dX7_candle_39 : decode cX7_candle 39 = .ok (.ifCond .eq 24, 3) := by decide +kernel
theorem dX7_candle_42 : decode cX7_candle 42 = .ok (.iload 4, 2) := by decide +kernel
theorem dX7_candle_44 : decode cX7_candle 44 = .ok (.ifCond .eq 19, 3) := by decide +kernel
theorem dX7_candle_47 : decode cX7_candle 47 = .ok (.aload_n 0, 1) := by decide +kernel
theorem dX7_candle_48 : decode cX7_candle 48 = .ok (.bipush 6, 2) := by decide +kernel
theorem dX7_candle_50 : decode cX7_candle 50 = .ok (.iconst 3, 1) := by decide +kernel
theorem dX7_candle_51 : decode cX7_candle 51 = .ok (.iload_n 1, 1) := by decide +kernel
theorem dX7_candle_52 : decode cX7_candle 52 = .ok (.imul, 1) := by decide +kernel
theorem dX7_candle_53 : decode cX7_candle 53 = .ok (.iadd, 1) := by decide +kernel
theorem dX7_candle_54 : decode cX7_candle 54 = .ok (.iload_n 2, 1) := by decide +kernel
theorem dX7_candle_55 : decode cX7_candle 55 = .ok (.iadd, 1) := by decide +kernel
theorem dX7_candle_56 : decode cX7_candle 56 = .ok (.iload_n 3, 1) := by decide +kernel
theorem dX7_candle_57 : decode cX7_candle 57 = .ok (.invokevirtual 127, 3) := by decide +kernel
theorem dX7_candle_60 : decode cX7_candle 60 = .ok (.goto 9, 3) := by decide +kernel
theorem dX7_candle_63 : decode cX7_candle 63 = .ok (.aload_n 0, 1) := by decide +kernel
theorem dX7_candle_64 : decode cX7_candle 64 = .ok (.ldc 43, 2) := by decide +kernel
theorem dX7_candle_66 : decode cX7_candle 66 = .ok (.invokevirtual 45, 3) := by decide +kernel
theorem dX7_candle_69 : decode cX7_candle 69 = .ok (.ireturn, 1) := by decide +kernel
theorem dX7_lit_0 : decode cX7_lit 0 = .ok (.iload_n 1, 1) := by decide +kernel
theorem dX7_lit_1 : decode cX7_lit 1 = .ok (.invokestatic 146, 3) := by decide +kernel
theorem dX7_lit_4 : decode cX7_lit 4 = .ok (.ifCond .eq 27, 3) := by decide +kernel
theorem dX7_lit_7 : decode cX7_lit 7 = .ok (.aload_n 0, 1) := by decide +kernel
theorem dX7_lit_8 : decode cX7_lit 8 = .ok (.bipush 6, 2) := by decide +kernel
theorem dX7_lit_10 : decode cX7_lit 10 = .ok (.iconst 3, 1) := by decide +kernel
theorem dX7_lit_11 : decode cX7_lit 11 = .ok (.iload_n 1, 1) := by decide +kernel
theorem dX7_lit_12 : decode cX7_lit 12 = .ok (.imul, 1) := by decide +kernel
theorem dX7_lit_13 : decode cX7_lit 13 = .ok (.iadd, 1) := by decide +kernel
theorem dX7_lit_14 : decode cX7_lit 14 = .ok (.iconst 2, 1) := by decide +kernel
theorem dX7_lit_15 : decode cX7_lit 15 = .ok (.iadd, 1) := by decide +kernel
theorem dX7_lit_16 : decode cX7_lit 16 = .ok (.iload_n 2, 1) := by decide +kernel
theorem dX7_lit_17 : decode cX7_lit 17 = .ok (.ifCond .eq 7, 3) := by decide +kernel
theorem dX7_lit_20 : decode cX7_lit 20 = .ok (.iconst 1, 1) := by decide +kernel
theorem dX7_lit_21 : decode cX7_lit 21 = .ok (.goto 4, 3) := by decide +kernel
theorem dX7_lit_24 : decode cX7_lit 24 = .ok (.iconst 0, 1) := by decide +kernel
theorem dX7_lit_25 : decode cX7_lit 25 = .ok (.invokevirtual 127, 3) := by decide +kernel
theorem dX7_lit_28 : decode cX7_lit 28 = .ok (.goto 9, 3) := by decide +kernel
theorem dX7_lit_31 : decode cX7_lit 31 = .ok (.aload_n 0, 1) := by decide +kernel
theorem dX7_lit_32 : decode cX7_lit 32 = .ok (.ldc 43, 2) := by decide +kernel
theorem dX7_lit_34 : decode cX7_lit 34 = .ok (.invokevirtual 45, 3) := by decide +kernel
theorem dX7_lit_37 : decode cX7_lit 37 = .ok (.ireturn, 1) := by decide +kernel
theorem dX7_cold_0 : decode cX7_cold 0 = .ok (.iload_n 1, 1) := by decide +kernel
theorem dX7_cold_1 : decode cX7_cold 1 = .ok (.i2l, 1) := by decide +kernel
theorem dX7_cold_2 : decode cX7_cold 2 = .ok (.ldc2_w 149, 3) := by decide +kernel
theorem dX7_cold_5 : decode cX7_cold 5 = .ok (.ldc2_w 151, 3) := by decide +kernel
theorem dX7_cold_8 : decode cX7_cold 8 = .ok (.invokestatic 51, 3) := by decide +kernel
theorem dX7_cold_11 : decode cX7_cold 11 = .ok (.ifCond .eq 12, 3) := by decide +kernel
theorem dX7_cold_14 : decode cX7_cold 14 = .ok (.aload_n 0, 1) := by decide +kernel
theorem dX7_cold_15 : decode cX7_cold 15 = .ok (.iconst 1, 1) := by decide +kernel
theorem dX7_cold_16 : decode cX7_cold 16 = .ok (.iload_n 1, 1) := by decide +kernel
theorem dX7_cold_17 : decode cX7_cold 17 = .ok (.invokevirtual 127, 3) := by decide +kernel
theorem dX7_cold_20 : decode cX7_cold 20 = .ok (.goto 9, 3) := by decide +kernel
theorem dX7_cold_23 : decode cX7_cold 23 = .ok (.aload_n 0, 1) := by decide +kernel
theorem dX7_cold_24 : decode cX7_cold 24 = .ok (.ldc 43, 2) := by decide +kernel
theorem dX7_cold_26 : decode cX7_cold 26 = .ok (.invokevirtual 45, 3) := by decide +kernel
theorem dX7_cold_29 : decode cX7_cold 29 = .ok (.ireturn, 1) := by decide +kernel
theorem dX7_warmth_0 : decode cX7_warmth 0 = .ok (.iload_n 1, 1) := by decide +kernel
theorem dX7_warmth_1 : decode cX7_warmth 1 = .ok (.invokestatic 68, 3) := by decide +kernel
theorem dX7_warmth_4 : decode cX7_warmth 4 = .ok (.ifCond .eq 11, 3) := by decide +kernel
theorem dX7_warmth_7 : decode cX7_warmth 7 = .ok (.aload_n 0, 1) := by decide +kernel
theorem dX7_warmth_8 : decode cX7_warmth 8 = .ok (.iload_n 1, 1) := by decide +kernel
theorem dX7_warmth_9 : decode cX7_warmth 9 = .ok (.invokevirtual 137, 3) := by decide +kernel
theorem dX7_warmth_12 : decode cX7_warmth 12 = .ok (.goto 9, 3) := by decide +kernel
theorem dX7_warmth_15 : decode cX7_warmth 15 = .ok (.aload_n 0, 1) := by decide +kernel
theorem dX7_warmth_16 : decode cX7_warmth 16 = .ok (.ldc 43, 2) := by decide +kernel
theorem dX7_warmth_18 : decode cX7_warmth 18 = .ok (.invokevirtual 45, 3) := by decide +kernel
theorem dX7_warmth_21 : decode cX7_warmth 21 = .ok (.ireturn, 1) := by decide +kernel
theorem dX7_light_0 : decode cX7_light 0 = .ok (.iconst 0, 1) := by decide +kernel
theorem dX7_light_1 : decode cX7_light 1 = .ok (.istore_n 1, 1) := by decide +kernel
theorem dX7_light_2 : decode cX7_light 2 = .ok (.iconst 0, 1) := by decide +kernel
theorem dX7_light_3 : decode cX7_light 3 = .ok (.istore_n 2, 1) := by decide +kernel
theorem dX7_light_4 : decode cX7_light 4 = .ok (.iload_n 2, 1) := by decide +kernel
theorem dX7_light_5 : decode cX7_light 5 = .ok (.bipush 6, 2) := by decide +kernel
theorem dX7_light_7 : decode cX7_light 7 = .ok (.if_icmp .ge 37, 3) := by decide +kernel
theorem dX7_light_10 : decode cX7_light 10 = .ok (.iload_n 1, 1) := by decide +kernel
theorem dX7_light_11 : decode cX7_light 11 = .ok (.aload_n 0, 1) := by decide +kernel
theorem dX7_light_12 : decode cX7_light 12 = .ok (.iload_n 2, 1) := by decide +kernel
theorem dX7_light_13 : decode cX7_light 13 = .ok (.invokevirtual 131, 3) := by decide +kernel
theorem dX7_light_16 : decode cX7_light 16 = .ok (.ifCond .eq 19, 3) := by decide +kernel
theorem dX7_light_19 : decode cX7_light 19 = .ok (.aload_n 0, 1) := by decide +kernel
theorem dX7_light_20 : decode cX7_light 20 = .ok (.getfield 9, 3) := by decide +kernel
theorem dX7_light_23 : decode cX7_light 23 = .ok (.bipush 6, 2) := by decide +kernel
theorem dX7_light_25 : decode cX7_light 25 = .ok (.iconst 3, 1) := by decide +kernel
theorem dX7_light_26 : decode cX7_light 26 = .ok (.iload_n 2, 1) := by decide +kernel
theorem dX7_light_27 : decode cX7_light 27 = .ok (.imul, 1) := by decide +kernel
theorem dX7_light_28 : decode cX7_light 28 = .ok (.iadd, 1) := by decide +kernel
theorem dX7_light_29 : decode cX7_light 29 = .ok (.iconst 1, 1) := by decide +kernel
theorem dX7_light_30 : decode cX7_light 30 = .ok (.iadd, 1) := by decide +kernel
theorem dX7_light_31 : decode cX7_light 31 = .ok (.iaload, 1) := by decide +kernel
theorem dX7_light_32 : decode cX7_light 32 = .ok (.goto 4, 3) := by decide +kernel
theorem dX7_light_35 : decode cX7_light 35 = .ok (.iconst 0, 1) := by decide +kernel
theorem dX7_light_36 : decode cX7_light 36 = .ok (.iadd, 1) := by decide +kernel
theorem dX7_light_37 : decode cX7_light 37 = .ok (.istore_n 1, 1) := by decide +kernel
theorem dX7_light_38 : decode cX7_light 38 = .ok (.iinc 2 1, 3) := by decide +kernel
theorem dX7_light_41 : decode cX7_light 41 = .ok (.goto (-37), 3) := by decide +kernel
theorem dX7_light_44 : decode cX7_light 44 = .ok (.iload_n 1, 1) := by decide +kernel
theorem dX7_light_45 : decode cX7_light 45 = .ok (.ireturn, 1) := by decide +kernel
theorem dX7_melts_0 : decode cX7_melts 0 = .ok (.aload_n 0, 1) := by decide +kernel
theorem dX7_melts_1 : decode cX7_melts 1 = .ok (.getfield 25, 3) := by decide +kernel
theorem dX7_melts_4 : decode cX7_melts 4 = .ok (.iload_n 1, 1) := by decide +kernel
theorem dX7_melts_5 : decode cX7_melts 5 = .ok (.iaload, 1) := by decide +kernel
theorem dX7_melts_6 : decode cX7_melts 6 = .ok (.ifCond .le 78, 3) := by decide +kernel
theorem dX7_melts_9 : decode cX7_melts 9 = .ok (.aload_n 0, 1) := by decide +kernel
theorem dX7_melts_10 : decode cX7_melts 10 = .ok (.getfield 25, 3) := by decide +kernel
theorem dX7_melts_13 : decode cX7_melts 13 = .ok (.iload_n 1, 1) := by decide +kernel
theorem dX7_melts_14 : decode cX7_melts 14 = .ok (.iaload, 1) := by decide +kernel
theorem dX7_melts_15 : decode cX7_melts 15 = .ok (.aload_n 0, 1) := by decide +kernel
theorem dX7_melts_16 : decode cX7_melts 16 = .ok (.iload_n 1, 1) := by decide +kernel
theorem dX7_melts_17 : decode cX7_melts 17 = .ok (.invokevirtual 111, 3) := by decide +kernel
theorem dX7_melts_20 : decode cX7_melts 20 = .ok (.if_icmp .ge 12, 3) := by decide +kernel
theorem dX7_melts_23 : decode cX7_melts 23 = .ok (.aload_n 0, 1) := by decide +kernel
theorem dX7_melts_24 : decode cX7_melts 24 = .ok (.getfield 25, 3) := by decide +kernel
theorem dX7_melts_27 : decode cX7_melts 27 = .ok (.iload_n 1, 1) := by decide +kernel
theorem dX7_melts_28 : decode cX7_melts 28 = .ok (.iaload, 1) := by decide +kernel
theorem dX7_melts_29 : decode cX7_melts 29 = .ok (.goto 8, 3) := by decide +kernel
theorem dX7_melts_32 : decode cX7_melts 32 = .ok (.aload_n 0, 1) := by decide +kernel
theorem dX7_melts_33 : decode cX7_melts 33 = .ok (.iload_n 1, 1) := by decide +kernel
theorem dX7_melts_34 : decode cX7_melts 34 = .ok (.invokevirtual 111, 3) := by decide +kernel
theorem dX7_melts_37 : decode cX7_melts 37 = .ok (.istore_n 2, 1) := by decide +kernel
theorem dX7_melts_38 : decode cX7_melts 38 = .ok (.aload_n 0, 1) := by decide +kernel
theorem dX7_melts_39 : decode cX7_melts 39 = .ok (.iload_n 1, 1) := by decide +kernel
theorem dX7_melts_40 : decode cX7_melts 40 = .ok (.aload_n 0, 1) := by decide +kernel
theorem dX7_melts_41 : decode cX7_melts 41 = .ok (.iload_n 1, 1) := by decide +kernel
theorem dX7_melts_42 : decode cX7_melts 42 = .ok (.invokevirtual 111, 3) := by decide +kernel
theorem dX7_melts_45 : decode cX7_melts 45 = .ok (.iload_n 2, 1) := by decide +kernel
theorem dX7_melts_46 : decode cX7_melts 46 = .ok (.isub, 1) := by decide +kernel
theorem dX7_melts_47 : decode cX7_melts 47 = .ok (.invokevirtual 140, 3) := by decide +kernel
theorem dX7_melts_50 : decode cX7_melts 50 = .ok (.aload_n 0, 1) := by decide +kernel
theorem dX7_melts_51 : decode cX7_melts 51 = .ok (.getfield 28, 3) := by decide +kernel
theorem dX7_melts_54 : decode cX7_melts 54 = .ok (.aload_n 0, 1) := by decide +kernel
theorem dX7_melts_55 : decode cX7_melts 55 = .ok (.iload_n 1, 1) := by decide +kernel
theorem dX7_melts_56 : decode cX7_melts 56 = .ok (.invokevirtual 61, 3) := by decide +kernel
theorem dX7_melts_59 : decode cX7_melts 59 = .ok (.bipush 8, 2) := by decide +kernel
theorem dX7_melts_61 : decode cX7_melts 61 = .ok (.irem, 1) := by decide +kernel
theorem dX7_melts_62 : decode cX7_melts 62 = .ok (.dup2, 1) := by decide +kernel
theorem dX7_melts_63 : decode cX7_melts 63 = .ok (.iaload, 1) := by decide +kernel
theorem dX7_melts_64 : decode cX7_melts 64 = .ok (.iload_n 2, 1) := by decide +kernel
theorem dX7_melts_65 : decode cX7_melts 65 = .ok (.iconst 2, 1) := by decide +kernel
theorem dX7_melts_66 : decode cX7_melts 66 = .ok (.idiv, 1) := by decide +kernel
theorem dX7_melts_67 : decode cX7_melts 67 = .ok (.iadd, 1) := by decide +kernel
theorem dX7_melts_68 : decode cX7_melts 68 = .ok (.iastore, 1) := by decide +kernel
theorem dX7_melts_69 : decode cX7_melts 69 = .ok (.aload_n 0, 1) := by decide +kernel
theorem dX7_melts_70 : decode cX7_melts 70 = .ok (.getfield 9, 3) := by decide +kernel
theorem dX7_melts_73 : decode cX7_melts 73 = .ok (.iconst 2, 1) := by decide +kernel
theorem dX7_melts_74 : decode cX7_melts 74 = .ok (.dup2, 1) := by decide +kernel
theorem dX7_melts_75 : decode cX7_melts 75 = .ok (.iaload, 1) := by decide +kernel
theorem dX7_melts_76 : decode cX7_melts 76 = .ok (.iload_n 2, 1) := by decide +kernel
theorem dX7_melts_77 : decode cX7_melts 77 = .ok (.iload_n 2, 1) := by decide +kernel
theorem dX7_melts_78 : decode cX7_melts 78 = .ok (.iconst 2, 1) := by decide +kernel
theorem dX7_melts_79 : decode cX7_melts 79 = .ok (.idiv, 1) := by decide +kernel
theorem dX7_melts_80 : decode cX7_melts 80 = .ok (.isub, 1) := by decide +kernel
theorem dX7_melts_81 : decode cX7_melts 81 = .ok (.iadd, 1) := by decide +kernel
theorem dX7_melts_82 : decode cX7_melts 82 = .ok (.iastore, 1) := by decide +kernel
theorem dX7_melts_83 : decode cX7_melts 83 = .ok (.return_, 1) := by decide +kernel
theorem dX7_melts_84 : decode cX7_melts 84 = .ok (.aload_n 0, 1) := by decide +kernel
theorem dX7_melts_85 : decode cX7_melts 85 = .ok (.getfield 25, 3) := by decide +kernel
theorem dX7_melts_88 : decode cX7_melts 88 = .ok (.iload_n 1, 1) := by decide +kernel
theorem dX7_melts_89 : decode cX7_melts 89 = .ok (.iaload, 1) := by decide +kernel
theorem dX7_melts_90 : decode cX7_melts 90 = .ok (.ineg, 1) := by decide +kernel
theorem dX7_melts_91 : decode cX7_melts 91 = .ok (.iconst 2, 1) := by decide +kernel
theorem dX7_melts_92 : decode cX7_melts 92 = .ok (.idiv, 1) := by decide +kernel
theorem dX7_melts_93 : decode cX7_melts 93 = .ok (.istore_n 2, 1) := by decide +kernel
theorem dX7_melts_94 : decode cX7_melts 94 = .ok (.iload_n 2, 1) := by decide +kernel
theorem dX7_melts_95 : decode cX7_melts 95 = .ok (.aload_n 0, 1) := by decide +kernel
theorem dX7_melts_96 : decode cX7_melts 96 = .ok (.getfield 9, 3) := by decide +kernel
theorem dX7_melts_99 : decode cX7_melts 99 = .ok (.iconst 2, 1) := by decide +kernel
theorem dX7_melts_100 : decode cX7_melts 100 = .ok (.iaload, 1) := by decide +kernel
theorem dX7_melts_101 : decode cX7_melts 101 = .ok (.if_icmp .ge 7, 3) := by decide +kernel
theorem dX7_melts_104 : decode cX7_melts 104 = .ok (.iload_n 2, 1) := by decide +kernel
theorem dX7_melts_105 : decode cX7_melts 105 = .ok (.goto 9, 3) := by decide +kernel
theorem dX7_melts_108 : decode cX7_melts 108 = .ok (.aload_n 0, 1) := by decide +kernel
theorem dX7_melts_109 : decode cX7_melts 109 = .ok (.getfield 9, 3) := by decide +kernel
theorem dX7_melts_112 : decode cX7_melts 112 = .ok (.iconst 2, 1) := by decide +kernel
theorem dX7_melts_113 : decode cX7_melts 113 = .ok (.iaload, 1) := by decide +kernel
theorem dX7_melts_114 : decode cX7_melts 114 = .ok (.istore_n 2, 1) := by decide +kernel
theorem dX7_melts_115 : decode cX7_melts 115 = .ok (.iload_n 2, 1) := by decide +kernel
theorem dX7_melts_116 : decode cX7_melts 116 = .ok (.bipush 99, 2) := by decide +kernel
theorem dX7_melts_118 : decode cX7_melts 118 = .ok (.aload_n 0, 1) := by decide +kernel
theorem dX7_melts_119 : decode cX7_melts 119 = .ok (.iload_n 1, 1) := by decide +kernel
theorem dX7_melts_120 : decode cX7_melts 120 = .ok (.invokevirtual 111, 3) := by decide +kernel
theorem dX7_melts_123 : decode cX7_melts 123 = .ok (.isub, 1) := by decide +kernel
theorem dX7_melts_124 : decode cX7_melts 124 = .ok (.if_icmp .ge 7, 3) := by decide +kernel
theorem dX7_melts_127 : decode cX7_melts 127 = .ok (.iload_n 2, 1) := by decide +kernel
theorem dX7_melts_128 : decode cX7_melts 128 = .ok (.goto 11, 3) := by decide +kernel
theorem dX7_melts_131 : decode cX7_melts 131 = .ok (.bipush 99, 2) := by decide +kernel
theorem dX7_melts_133 : decode cX7_melts 133 = .ok (.aload_n 0, 1) := by decide +kernel
theorem dX7_melts_134 : decode cX7_melts 134 = .ok (.iload_n 1, 1) := by decide +kernel
theorem dX7_melts_135 : decode cX7_melts 135 = .ok (.invokevirtual 111, 3) := by decide +kernel
theorem dX7_melts_138 : decode cX7_melts 138 = .ok (.isub, 1) := by decide +kernel
theorem dX7_melts_139 : decode cX7_melts 139 = .ok (.istore_n 2, 1) := by decide +kernel
theorem dX7_melts_140 : decode cX7_melts 140 = .ok (.aload_n 0, 1) := by decide +kernel
theorem dX7_melts_141 : decode cX7_melts 141 = .ok (.iload_n 1, 1) := by decide +kernel
theorem dX7_melts_142 : decode cX7_melts 142 = .ok (.aload_n 0, 1) := by decide +kernel
theorem dX7_melts_143 : decode cX7_melts 143 = .ok (.iload_n 1, 1) := by decide +kernel
theorem dX7_melts_144 : decode cX7_melts 144 = .ok (.invokevirtual 111, 3) := by decide +kernel
theorem dX7_melts_147 : decode cX7_melts 147 = .ok (.iload_n 2, 1) := by decide +kernel
theorem dX7_melts_148 : decode cX7_melts 148 = .ok (.iadd, 1) := by decide +kernel
theorem dX7_melts_149 : decode cX7_melts 149 = .ok (.invokevirtual 140, 3) := by decide +kernel
theorem dX7_melts_152 : decode cX7_melts 152 = .ok (.aload_n 0, 1) := by decide +kernel
theorem dX7_melts_153 : decode cX7_melts 153 = .ok (.getfield 9, 3) := by decide +kernel
theorem dX7_melts_156 : decode cX7_melts 156 = .ok (.iconst 2, 1) := by decide +kernel
theorem dX7_melts_157 : decode cX7_melts 157 = .ok (.dup2, 1) := by decide +kernel
theorem dX7_melts_158 : decode cX7_melts 158 = .ok (.iaload, 1) := by decide +kernel
theorem dX7_melts_159 : decode cX7_melts 159 = .ok (.iload_n 2, 1) := by decide +kernel
theorem dX7_melts_160 : decode cX7_melts 160 = .ok (.isub, 1) := by decide +kernel
theorem dX7_melts_161 : decode cX7_melts 161 = .ok (.iastore, 1) := by decide +kernel
theorem dX7_melts_162 : decode cX7_melts 162 = .ok (.return_, 1) := by decide +kernel
theorem dX7_freezes_0 : decode cX7_freezes 0 = .ok (.iconst (-1), 1) := by decide +kernel
theorem dX7_freezes_1 : decode cX7_freezes 1 = .ok (.istore_n 2, 1) := by decide +kernel
theorem dX7_freezes_2 : decode cX7_freezes 2 = .ok (.bipush 40, 2) := by decide +kernel
theorem dX7_freezes_4 : decode cX7_freezes 4 = .ok (.iload_n 1, 1) := by decide +kernel
theorem dX7_freezes_5 : decode cX7_freezes 5 = .ok (.iadd, 1) := by decide +kernel
theorem dX7_freezes_6 : decode cX7_freezes 6 = .ok (.istore_n 3, 1) := by decide +kernel
theorem dX7_freezes_7 : decode cX7_freezes 7 = .ok (.iload_n 3, 1) := by decide +kernel
theorem dX7_freezes_8 : decode cX7_freezes 8 = .ok (.ifCond .lt 38, 3) := by decide +kernel
theorem dX7_freezes_11 : decode cX7_freezes 11 = .ok (.aload_n 0, 1) := by decide +kernel
theorem dX7_freezes_12 : decode cX7_freezes 12 = .ok (.iload_n 3, 1) := by decide +kernel
theorem dX7_freezes_13 : decode cX7_freezes 13 = .ok (.invokevirtual 75, 3) := by decide +kernel
theorem dX7_freezes_16 : decode cX7_freezes 16 = .ok (.istore 4, 2) := by decide +kernel
theorem dX7_freezes_18 : decode cX7_freezes 18 = .ok (.iload 4, 2) := by decide +kernel
theorem dX7_freezes_20 : decode cX7_freezes 20 = .ok (.ifCond .lt 18, 3) := by decide +kernel
theorem dX7_freezes_23 : decode cX7_freezes 23 = .ok (.aload_n 0, 1) := by decide +kernel
theorem dX7_freezes_24 : decode cX7_freezes 24 = .ok (.getfield 25, 3) := by decide +kernel
theorem dX7_freezes_27 : decode cX7_freezes 27 = .ok (.iload 4, 2) := by decide +kernel
theorem dX7_freezes_29 : decode cX7_freezes 29 = .ok (.iaload, 1) := by decide +kernel
theorem dX7_freezes_30 : decode cX7_freezes 30 = .ok (.ifCond .ge 8, 3) := by decide +kernel
theorem dX7_freezes_33 : decode cX7_freezes 33 = .ok (.iload 4, 2) := by decide +kernel
theorem dX7_freezes_35 : decode cX7_freezes 35 = .ok (.goto 4, 3) := by decide +kernel
theorem dX7_freezes_38 : decode cX7_freezes 38 = .ok (.iload_n 2, 1) := by decide +kernel
theorem dX7_freezes_39 : decode cX7_freezes 39 = .ok (.istore_n 2, 1) := by decide +kernel
theorem dX7_freezes_40 : decode cX7_freezes 40 = .ok (.iinc 3 (-8), 3) := by decide +kernel
theorem dX7_freezes_43 : decode cX7_freezes 43 = .ok (.goto (-36), 3) := by decide +kernel
theorem dX7_freezes_46 : decode cX7_freezes 46 = .ok (.aload_n 0, 1) := by decide +kernel
theorem dX7_freezes_47 : decode cX7_freezes 47 = .ok (.getfield 28, 3) := by decide +kernel
theorem dX7_freezes_50 : decode cX7_freezes 50 = .ok (.iload_n 1, 1) := by decide +kernel
theorem dX7_freezes_51 : decode cX7_freezes 51 = .ok (.iaload, 1) := by decide +kernel
theorem dX7_freezes_52 : decode cX7_freezes 52 = .ok (.istore_n 3, 1) := by decide +kernel
theorem dX7_freezes_53 : decode cX7_freezes 53 = .ok (.iload_n 2, 1) := by decide +kernel
theorem dX7_freezes_54 : decode cX7_freezes 54 = .ok (.ifCond .lt 45, 3) := by decide +kernel
theorem dX7_freezes_57 : decode cX7_freezes 57 = .ok (.bipush 99, 2) := by decide +kernel
theorem dX7_freezes_59 : decode cX7_freezes 59 = .ok (.aload_n 0, 1) := by decide +kernel
theorem dX7_freezes_60 : decode cX7_freezes 60 = .ok (.iload_n 2, 1) := by decide +kernel
theorem dX7_freezes_61 : decode cX7_freezes 61 = .ok (.invokevirtual 111, 3) := by decide +kernel
theorem dX7_freezes_64 : decode cX7_freezes 64 = .ok (.isub, 1) := by decide +kernel
theorem dX7_freezes_65 : decode cX7_freezes 65 = .ok (.istore 4, 2) := by decide +kernel
theorem dX7_freezes_67 : decode cX7_freezes 67 = .ok (.iload_n 3, 1) := by decide +kernel
theorem dX7_freezes_68 : decode cX7_freezes 68 = .ok (.iload 4, 2) := by decide +kernel
theorem dX7_freezes_70 : decode cX7_freezes 70 = .ok (.if_icmp .ge 7, 3) := by decide +kernel
theorem dX7_freezes_73 : decode cX7_freezes 73 = .ok (.iload_n 3, 1) := by decide +kernel
theorem dX7_freezes_74 : decode cX7_freezes 74 = .ok (.goto 5, 3) := by decide +kernel
theorem dX7_freezes_77 : decode cX7_freezes 77 = .ok (.iload 4, 2) := by decide +kernel
theorem dX7_freezes_79 : decode cX7_freezes 79 = .ok (.istore 5, 2) := by decide +kernel
theorem dX7_freezes_81 : decode cX7_freezes 81 = .ok (.aload_n 0, 1) := by decide +kernel
theorem dX7_freezes_82 : decode cX7_freezes 82 = .ok (.iload_n 2, 1) := by decide +kernel
theorem dX7_freezes_83 : decode cX7_freezes 83 = .ok (.aload_n 0, 1) := by decide +kernel
theorem dX7_freezes_84 : decode cX7_freezes 84 = .ok (.iload_n 2, 1) := by decide +kernel
theorem dX7_freezes_85 : decode cX7_freezes 85 = .ok (.invokevirtual 111, 3) := by decide +kernel
theorem dX7_freezes_88 : decode cX7_freezes 88 = .ok (.iload 5, 2) := by decide +kernel
theorem dX7_freezes_90 : decode cX7_freezes 90 = .ok (.iadd, 1) := by decide +kernel
theorem dX7_freezes_91 : decode cX7_freezes 91 = .ok (.invokevirtual 140, 3) := by decide +kernel
theorem dX7_freezes_94 : decode cX7_freezes 94 = .ok (.iload_n 3, 1) := by decide +kernel
theorem dX7_freezes_95 : decode cX7_freezes 95 = .ok (.iload 5, 2) := by decide +kernel
theorem dX7_freezes_97 : decode cX7_freezes 97 = .ok (.isub, 1) := by decide +kernel
theorem dX7_freezes_98 : decode cX7_freezes 98 = .ok (.istore_n 3, 1) := by decide +kernel
theorem dX7_freezes_99 : decode cX7_freezes 99 = .ok (.aload_n 0, 1) := by decide +kernel
theorem dX7_freezes_100 : decode cX7_freezes 100 = .ok (.getfield 9, 3) := by decide +kernel
theorem dX7_freezes_103 : decode cX7_freezes 103 = .ok (.iconst 2, 1) := by decide +kernel
theorem dX7_freezes_104 : decode cX7_freezes 104 = .ok (.dup2, 1) := by decide +kernel
theorem dX7_freezes_105 : decode cX7_freezes 105 = .ok (.iaload, 1) := by decide +kernel
theorem dX7_freezes_106 : decode cX7_freezes 106 = .ok (.iload_n 3, 1) := by decide +kernel
theorem dX7_freezes_107 : decode cX7_freezes 107 = .ok (.iadd, 1) := by decide +kernel
theorem dX7_freezes_108 : decode cX7_freezes 108 = .ok (.iastore, 1) := by decide +kernel
theorem dX7_freezes_109 : decode cX7_freezes 109 = .ok (.return_, 1) := by decide +kernel
theorem dX7_weakNow_0 : decode cX7_weakNow 0 = .ok (.iconst 0, 1) := by decide +kernel
theorem dX7_weakNow_1 : decode cX7_weakNow 1 = .ok (.istore_n 1, 1) := by decide +kernel
theorem dX7_weakNow_2 : decode cX7_weakNow 2 = .ok (.iconst 0, 1) := by decide +kernel
theorem dX7_weakNow_3 : decode cX7_weakNow 3 = .ok (.istore_n 2, 1) := by decide +kernel
theorem dX7_weakNow_4 : decode cX7_weakNow 4 = .ok (.iload_n 2, 1) := by decide +kernel
theorem dX7_weakNow_5 : decode cX7_weakNow 5 = .ok (.aload_n 0, 1) := by decide +kernel
theorem dX7_weakNow_6 : decode cX7_weakNow 6 = .ok (.getfield 9, 3) := by decide +kernel
theorem dX7_weakNow_9 : decode cX7_weakNow 9 = .ok (.iconst 5, 1) := by decide +kernel
theorem dX7_weakNow_10 : decode cX7_weakNow 10 = .ok (.iaload, 1) := by decide +kernel
theorem dX7_weakNow_11 : decode cX7_weakNow 11 = .ok (.if_icmp .ge 40, 3) := by decide +kernel
theorem dX7_weakNow_14 : decode cX7_weakNow 14 = .ok (.iload_n 1, 1) := by decide +kernel
theorem dX7_weakNow_15 : decode cX7_weakNow 15 = .ok (.aload_n 0, 1) := by decide +kernel
theorem dX7_weakNow_16 : decode cX7_weakNow 16 = .ok (.iload_n 2, 1) := by decide +kernel
theorem dX7_weakNow_17 : decode cX7_weakNow 17 = .ok (.invokevirtual 105, 3) := by decide +kernel
theorem dX7_weakNow_20 : decode cX7_weakNow 20 = .ok (.ifCond .ne 22, 3) := by decide +kernel
theorem dX7_weakNow_23 : decode cX7_weakNow 23 = .ok (.aload_n 0, 1) := by decide +kernel
theorem dX7_weakNow_24 : decode cX7_weakNow 24 = .ok (.iload_n 2, 1) := by decide +kernel
theorem dX7_weakNow_25 : decode cX7_weakNow 25 = .ok (.invokevirtual 121, 3) := by decide +kernel
theorem dX7_weakNow_28 : decode cX7_weakNow 28 = .ok (.aload_n 0, 1) := by decide +kernel
theorem dX7_weakNow_29 : decode cX7_weakNow 29 = .ok (.iload_n 2, 1) := by decide +kernel
theorem dX7_weakNow_30 : decode cX7_weakNow 30 = .ok (.invokevirtual 124, 3) := by decide +kernel
theorem dX7_weakNow_33 : decode cX7_weakNow 33 = .ok (.if_icmp .le 9, 3) := by decide +kernel
theorem dX7_weakNow_36 : decode cX7_weakNow 36 = .ok (.iconst 1, 1) := by decide +kernel
theorem dX7_weakNow_37 : decode cX7_weakNow 37 = .ok (.iload_n 2, 1) := by decide +kernel
theorem dX7_weakNow_38 : decode cX7_weakNow 38 = .ok (.ishl, 1) := by decide +kernel
theorem dX7_weakNow_39 : decode cX7_weakNow 39 = .ok (.goto 4, 3) := by decide +kernel
theorem dX7_weakNow_42 : decode cX7_weakNow 42 = .ok (.iconst 0, 1) := by decide +kernel
theorem dX7_weakNow_43 : decode cX7_weakNow 43 = .ok (.ior, 1) := by decide +kernel
theorem dX7_weakNow_44 : decode cX7_weakNow 44 = .ok (.istore_n 1, 1) := by decide +kernel
theorem dX7_weakNow_45 : decode cX7_weakNow 45 = .ok (.iinc 2 1, 3) := by decide +kernel
theorem dX7_weakNow_48 : decode cX7_weakNow 48 = .ok (.goto (-44), 3) := by decide +kernel
theorem dX7_weakNow_51 : decode cX7_weakNow 51 = .ok (.iload_n 1, 1) := by decide +kernel
theorem dX7_weakNow_52 : decode cX7_weakNow 52 = .ok (.ireturn, 1) := by decide +kernel
theorem dX7_looseNow_0 : decode cX7_looseNow 0 = .ok (.aload_n 0, 1) := by decide +kernel
theorem dX7_looseNow_1 : decode cX7_looseNow 1 = .ok (.invokevirtual 117, 3) := by decide +kernel
theorem dX7_looseNow_4 : decode cX7_looseNow 4 = .ok (.istore_n 1, 1) := by decide +kernel
theorem dX7_looseNow_5 : decode cX7_looseNow 5 = .ok (.iconst 0, 1) := by decide +kernel
theorem dX7_looseNow_6 : decode cX7_looseNow 6 = .ok (.istore_n 2, 1) := by decide +kernel
theorem dX7_looseNow_7 : decode cX7_looseNow 7 = .ok (.iconst 0, 1) := by decide +kernel
theorem dX7_looseNow_8 : decode cX7_looseNow 8 = .ok (.istore_n 3, 1) := by decide +kernel
theorem dX7_looseNow_9 : decode cX7_looseNow 9 = .ok (.iload_n 3, 1) := by decide +kernel
theorem dX7_looseNow_10 : decode cX7_looseNow 10 = .ok (.aload_n 0, 1) := by decide +kernel
theorem dX7_looseNow_11 : decode cX7_looseNow 11 = .ok (.getfield 9, 3) := by decide +kernel
theorem dX7_looseNow_14 : decode cX7_looseNow 14 = .ok (.iconst 5, 1) := by decide +kernel
theorem dX7_looseNow_15 : decode cX7_looseNow 15 = .ok (.iaload, 1) := by decide +kernel
theorem dX7_looseNow_16 : decode cX7_looseNow 16 = .ok (.if_icmp .ge 35, 3) := by decide +kernel
theorem dX7_looseNow_19 : decode cX7_looseNow 19 = .ok (.iload_n 2, 1) := by decide +kernel
theorem dX7_looseNow_20 : decode cX7_looseNow 20 = .ok (.aload_n 0, 1) := by decide +kernel
theorem dX7_looseNow_21 : decode cX7_looseNow 21 = .ok (.iload_n 3, 1) := by decide +kernel
theorem dX7_looseNow_22 : decode cX7_looseNow 22 = .ok (.invokevirtual 105, 3) := by decide +kernel
theorem dX7_looseNow_25 : decode cX7_looseNow 25 = .ok (.ifCond .ne 17, 3) := by decide +kernel
theorem dX7_looseNow_28 : decode cX7_looseNow 28 = .ok (.iload_n 1, 1) := by decide +kernel
theorem dX7_looseNow_29 : decode cX7_looseNow 29 = .ok (.iload_n 3, 1) := by decide +kernel
theorem dX7_looseNow_30 : decode cX7_looseNow 30 = .ok (.invokestatic 83, 3) := by decide +kernel
theorem dX7_looseNow_33 : decode cX7_looseNow 33 = .ok (.ifCond .ne 9, 3) := by decide +kernel
theorem dX7_looseNow_36 : decode cX7_looseNow 36 = .ok (.iconst 1, 1) := by decide +kernel
theorem dX7_looseNow_37 : decode cX7_looseNow 37 = .ok (.iload_n 3, 1) := by decide +kernel
theorem dX7_looseNow_38 : decode cX7_looseNow 38 = .ok (.ishl, 1) := by decide +kernel
theorem dX7_looseNow_39 : decode cX7_looseNow 39 = .ok (.goto 4, 3) := by decide +kernel
theorem dX7_looseNow_42 : decode cX7_looseNow 42 = .ok (.iconst 0, 1) := by decide +kernel
theorem dX7_looseNow_43 : decode cX7_looseNow 43 = .ok (.ior, 1) := by decide +kernel
theorem dX7_looseNow_44 : decode cX7_looseNow 44 = .ok (.istore_n 2, 1) := by decide +kernel
theorem dX7_looseNow_45 : decode cX7_looseNow 45 = .ok (.iinc 3 1, 3) := by decide +kernel
theorem dX7_looseNow_48 : decode cX7_looseNow 48 = .ok (.goto (-39), 3) := by decide +kernel
theorem dX7_looseNow_51 : decode cX7_looseNow 51 = .ok (.iload_n 2, 1) := by decide +kernel
theorem dX7_looseNow_52 : decode cX7_looseNow 52 = .ok (.ireturn, 1) := by decide +kernel
theorem dX7_falls_0 : decode cX7_falls 0 = .ok (.aload_n 0, 1) := by decide +kernel
theorem dX7_falls_1 : decode cX7_falls 1 = .ok (.invokevirtual 153, 3) := by decide +kernel
theorem dX7_falls_4 : decode cX7_falls 4 = .ok (.aload_n 0, 1) := by decide +kernel
theorem dX7_falls_5 : decode cX7_falls 5 = .ok (.invokevirtual 156, 3) := by decide +kernel
theorem dX7_falls_8 : decode cX7_falls 8 = .ok (.ior, 1) := by decide +kernel
theorem dX7_falls_9 : decode cX7_falls 9 = .ok (.istore_n 1, 1) := by decide +kernel
theorem dX7_falls_10 : decode cX7_falls 10 = .ok (.iload_n 1, 1) := by decide +kernel
theorem dX7_falls_11 : decode cX7_falls 11 = .ok (.ifCond .eq 79, 3) := by decide +kernel
theorem dX7_falls_14 : decode cX7_falls 14 = .ok (.iconst 0, 1) := by decide +kernel
theorem dX7_falls_15 : decode cX7_falls 15 = .ok (.istore_n 2, 1) := by decide +kernel
theorem dX7_falls_16 : decode cX7_falls 16 = .ok (.iload_n 2, 1) := by decide +kernel
theorem dX7_falls_17 : decode cX7_falls 17 = .ok (.aload_n 0, 1) := by decide +kernel
theorem dX7_falls_18 : decode cX7_falls 18 = .ok (.getfield 9, 3) := by decide +kernel
theorem dX7_falls_21 : decode cX7_falls 21 = .ok (.iconst 5, 1) := by decide +kernel
theorem dX7_falls_22 : decode cX7_falls 22 = .ok (.iaload, 1) := by decide +kernel
theorem dX7_falls_23 : decode cX7_falls 23 = .ok (.if_icmp .ge 54, 3) := by decide +kernel
theorem dX7_falls_26 : decode cX7_falls 26 = .ok (.iload_n 1, 1) := by decide +kernel
theorem dX7_falls_27 : decode cX7_falls 27 = .ok (.iload_n 2, 1) := by decide +kernel
theorem dX7_falls_28 : decode cX7_falls 28 = .ok (.invokestatic 83, 3) := by decide +kernel
theorem dX7_falls_31 : decode cX7_falls 31 = .ok (.ifCond .ne 6, 3) := by decide +kernel
theorem dX7_falls_34 : decode cX7_falls 34 = .ok (.goto 37, 3) := by decide +kernel
theorem dX7_falls_37 : decode cX7_falls 37 = .ok (.aload_n 0, 1) := by decide +kernel
theorem dX7_falls_38 : decode cX7_falls 38 = .ok (.getfield 9, 3) := by decide +kernel
theorem dX7_falls_41 : decode cX7_falls 41 = .ok (.iconst 3, 1) := by decide +kernel
theorem dX7_falls_42 : decode cX7_falls 42 = .ok (.dup2, 1) := by decide +kernel
theorem dX7_falls_43 : decode cX7_falls 43 = .ok (.iaload, 1) := by decide +kernel
theorem dX7_falls_44 : decode cX7_falls 44 = .ok (.aload_n 0, 1) := by decide +kernel
theorem dX7_falls_45 : decode cX7_falls 45 = .ok (.iload_n 2, 1) := by decide +kernel
theorem dX7_falls_46 : decode cX7_falls 46 = .ok (.invokevirtual 111, 3) := by decide +kernel
theorem dX7_falls_49 : decode cX7_falls 49 = .ok (.iadd, 1) := by decide +kernel
theorem dX7_falls_50 : decode cX7_falls 50 = .ok (.iastore, 1) := by decide +kernel
theorem dX7_falls_51 : decode cX7_falls 51 = .ok (.aload_n 0, 1) := by decide +kernel
theorem dX7_falls_52 : decode cX7_falls 52 = .ok (.iload_n 2, 1) := by decide +kernel
theorem dX7_falls_53 : decode cX7_falls 53 = .ok (.iconst 0, 1) := by decide +kernel
theorem dX7_falls_54 : decode cX7_falls 54 = .ok (.invokevirtual 140, 3) := by decide +kernel
theorem dX7_falls_57 : decode cX7_falls 57 = .ok (.aload_n 0, 1) := by decide +kernel
theorem dX7_falls_58 : decode cX7_falls 58 = .ok (.getfield 9, 3) := by decide +kernel
theorem dX7_falls_61 : decode cX7_falls 61 = .ok (.bipush 24, 2) := by decide +kernel
theorem dX7_falls_63 : decode cX7_falls 63 = .ok (.iconst 3, 1) := by decide +kernel
theorem dX7_falls_64 : decode cX7_falls 64 = .ok (.iload_n 2, 1) := by decide +kernel
theorem dX7_falls_65 : decode cX7_falls 65 = .ok (.imul, 1) := by decide +kernel
theorem dX7_falls_66 : decode cX7_falls 66 = .ok (.iadd, 1) := by decide +kernel
theorem dX7_falls_67 : decode cX7_falls 67 = .ok (.iconst 1, 1) := by decide +kernel
theorem dX7_falls_68 : decode cX7_falls 68 = .ok (.iadd, 1) := by decide +kernel
theorem dX7_falls_69 : decode cX7_falls 69 = .ok (.iconst (-1), 1) := by decide +kernel
theorem dX7_falls_70 : decode cX7_falls 70 = .ok (.iastore, 1) := by decide +kernel
theorem dX7_falls_71 : decode cX7_falls 71 = .ok (.iinc 2 1, 3) := by decide +kernel
theorem dX7_falls_74 : decode cX7_falls 74 = .ok (.goto (-58), 3) := by decide +kernel
theorem dX7_falls_77 : decode cX7_falls 77 = .ok (.aload_n 0, 1) := by decide +kernel
theorem dX7_falls_78 : decode cX7_falls 78 = .ok (.invokevirtual 153, 3) := by decide +kernel
theorem dX7_falls_81 : decode cX7_falls 81 = .ok (.aload_n 0, 1) := by decide +kernel
theorem dX7_falls_82 : decode cX7_falls 82 = .ok (.invokevirtual 156, 3) := by decide +kernel
theorem dX7_falls_85 : decode cX7_falls 85 = .ok (.ior, 1) := by decide +kernel
theorem dX7_falls_86 : decode cX7_falls 86 = .ok (.istore_n 1, 1) := by decide +kernel
theorem dX7_falls_87 : decode cX7_falls 87 = .ok (.goto (-77), 3) := by decide +kernel
theorem dX7_falls_90 : decode cX7_falls 90 = .ok (.return_, 1) := by decide +kernel
theorem dX7_emptyGo_0 : decode cX7_emptyGo 0 = .ok (.iconst 0, 1) := by decide +kernel
theorem dX7_emptyGo_1 : decode cX7_emptyGo 1 = .ok (.istore_n 1, 1) := by decide +kernel
theorem dX7_emptyGo_2 : decode cX7_emptyGo 2 = .ok (.iload_n 1, 1) := by decide +kernel
theorem dX7_emptyGo_3 : decode cX7_emptyGo 3 = .ok (.aload_n 0, 1) := by decide +kernel
theorem dX7_emptyGo_4 : decode cX7_emptyGo 4 = .ok (.getfield 9, 3) := by decide +kernel
theorem dX7_emptyGo_7 : decode cX7_emptyGo 7 = .ok (.iconst 5, 1) := by decide +kernel
theorem dX7_emptyGo_8 : decode cX7_emptyGo 8 = .ok (.iaload, 1) := by decide +kernel
theorem dX7_emptyGo_9 : decode cX7_emptyGo 9 = .ok (.if_icmp .ge 31, 3) := by decide +kernel
theorem dX7_emptyGo_12 : decode cX7_emptyGo 12 = .ok (.aload_n 0, 1) := by decide +kernel
theorem dX7_emptyGo_13 : decode cX7_emptyGo 13 = .ok (.iload_n 1, 1) := by decide +kernel
theorem dX7_emptyGo_14 : decode cX7_emptyGo 14 = .ok (.invokevirtual 111, 3) := by decide +kernel
theorem dX7_emptyGo_17 : decode cX7_emptyGo 17 = .ok (.ifCond .ne 17, 3) := by decide +kernel
theorem dX7_emptyGo_20 : decode cX7_emptyGo 20 = .ok (.aload_n 0, 1) := by decide +kernel
theorem dX7_emptyGo_21 : decode cX7_emptyGo 21 = .ok (.getfield 9, 3) := by decide +kernel
theorem dX7_emptyGo_24 : decode cX7_emptyGo 24 = .ok (.bipush 24, 2) := by decide +kernel
theorem dX7_emptyGo_26 : decode cX7_emptyGo 26 = .ok (.iconst 3, 1) := by decide +kernel
theorem dX7_emptyGo_27 : decode cX7_emptyGo 27 = .ok (.iload_n 1, 1) := by decide +kernel
theorem dX7_emptyGo_28 : decode cX7_emptyGo 28 = .ok (.imul, 1) := by decide +kernel
theorem dX7_emptyGo_29 : decode cX7_emptyGo 29 = .ok (.iadd, 1) := by decide +kernel
theorem dX7_emptyGo_30 : decode cX7_emptyGo 30 = .ok (.iconst 1, 1) := by decide +kernel
theorem dX7_emptyGo_31 : decode cX7_emptyGo 31 = .ok (.iadd, 1) := by decide +kernel
theorem dX7_emptyGo_32 : decode cX7_emptyGo 32 = .ok (.iconst (-1), 1) := by decide +kernel
theorem dX7_emptyGo_33 : decode cX7_emptyGo 33 = .ok (.iastore, 1) := by decide +kernel
theorem dX7_emptyGo_34 : decode cX7_emptyGo 34 = .ok (.iinc 1 1, 3) := by decide +kernel
theorem dX7_emptyGo_37 : decode cX7_emptyGo 37 = .ok (.goto (-35), 3) := by decide +kernel
theorem dX7_emptyGo_40 : decode cX7_emptyGo 40 = .ok (.return_, 1) := by decide +kernel
theorem dX7_hour_0 : decode cX7_hour 0 = .ok (.iconst 0, 1) := by decide +kernel
theorem dX7_hour_1 : decode cX7_hour 1 = .ok (.istore_n 1, 1) := by decide +kernel
theorem dX7_hour_2 : decode cX7_hour 2 = .ok (.iload_n 1, 1) := by decide +kernel
theorem dX7_hour_3 : decode cX7_hour 3 = .ok (.aload_n 0, 1) := by decide +kernel
theorem dX7_hour_4 : decode cX7_hour 4 = .ok (.getfield 9, 3) := by decide +kernel
theorem dX7_hour_7 : decode cX7_hour 7 = .ok (.iconst 5, 1) := by decide +kernel
theorem dX7_hour_8 : decode cX7_hour 8 = .ok (.iaload, 1) := by decide +kernel
theorem dX7_hour_9 : decode cX7_hour 9 = .ok (.if_icmp .ge 36, 3) := by decide +kernel
theorem dX7_hour_12 : decode cX7_hour 12 = .ok (.aload_n 0, 1) := by decide +kernel
theorem dX7_hour_13 : decode cX7_hour 13 = .ok (.getfield 25, 3) := by decide +kernel
theorem dX7_hour_16 : decode cX7_hour 16 = .ok (.iload_n 1, 1) := by decide +kernel
theorem dX7_hour_17 : decode cX7_hour 17 = .ok (.aload_n 0, 1) := by decide +kernel
theorem dX7_hour_18 : decode cX7_hour 18 = .ok (.iload_n 1, 1) := by decide +kernel
theorem dX7_hour_19 : decode cX7_hour 19 = .ok (.invokevirtual 105, 3) := by decide +kernel
theorem dX7_hour_22 : decode cX7_hour 22 = .ok (.ifCond .eq 7, 3) := by decide +kernel
theorem dX7_hour_25 : decode cX7_hour 25 = .ok (.iconst 0, 1) := by decide +kernel
theorem dX7_hour_26 : decode cX7_hour 26 = .ok (.goto 12, 3) := by decide +kernel
theorem dX7_hour_29 : decode cX7_hour 29 = .ok (.aload_n 0, 1) := by decide +kernel
theorem dX7_hour_30 : decode cX7_hour 30 = .ok (.aload_n 0, 1) := by decide +kernel
theorem dX7_hour_31 : decode cX7_hour 31 = .ok (.iload_n 1, 1) := by decide +kernel
theorem dX7_hour_32 : decode cX7_hour 32 = .ok (.invokevirtual 61, 3) := by decide +kernel
theorem dX7_hour_35 : decode cX7_hour 35 = .ok (.invokevirtual 137, 3) := by decide +kernel
theorem dX7_hour_38 : decode cX7_hour 38 = .ok (.iastore, 1) := by decide +kernel
theorem dX7_hour_39 : decode cX7_hour 39 = .ok (.iinc 1 1, 3) := by decide +kernel
theorem dX7_hour_42 : decode cX7_hour 42 = .ok (.goto (-40), 3) := by decide +kernel
theorem dX7_hour_45 : decode cX7_hour 45 = .ok (.iconst 0, 1) := by decide +kernel
theorem dX7_hour_46 : decode cX7_hour 46 = .ok (.istore_n 1, 1) := by decide +kernel
theorem dX7_hour_47 : decode cX7_hour 47 = .ok (.iload_n 1, 1) := by decide +kernel
theorem dX7_hour_48 : decode cX7_hour 48 = .ok (.bipush 8, 2) := by decide +kernel
theorem dX7_hour_50 : decode cX7_hour 50 = .ok (.if_icmp .ge 16, 3) := by decide +kernel
theorem dX7_hour_53 : decode cX7_hour 53 = .ok (.aload_n 0, 1) := by decide +kernel
theorem dX7_hour_54 : decode cX7_hour 54 = .ok (.getfield 28, 3) := by decide +kernel
theorem dX7_hour_57 : decode cX7_hour 57 = .ok (.iload_n 1, 1) := by decide +kernel
theorem dX7_hour_58 : decode cX7_hour 58 = .ok (.iconst 0, 1) := by decide +kernel
theorem dX7_hour_59 : decode cX7_hour 59 = .ok (.iastore, 1) := by decide +kernel
theorem dX7_hour_60 : decode cX7_hour 60 = .ok (.iinc 1 1, 3) := by decide +kernel
theorem dX7_hour_63 : decode cX7_hour 63 = .ok (.goto (-16), 3) := by decide +kernel
theorem dX7_hour_66 : decode cX7_hour 66 = .ok (.iconst 0, 1) := by decide +kernel
theorem dX7_hour_67 : decode cX7_hour 67 = .ok (.istore_n 1, 1) := by decide +kernel
theorem dX7_hour_68 : decode cX7_hour 68 = .ok (.iload_n 1, 1) := by decide +kernel
theorem dX7_hour_69 : decode cX7_hour 69 = .ok (.aload_n 0, 1) := by decide +kernel
theorem dX7_hour_70 : decode cX7_hour 70 = .ok (.getfield 9, 3) := by decide +kernel
theorem dX7_hour_73 : decode cX7_hour 73 = .ok (.iconst 5, 1) := by decide +kernel
theorem dX7_hour_74 : decode cX7_hour 74 = .ok (.iaload, 1) := by decide +kernel
theorem dX7_hour_75 : decode cX7_hour 75 = .ok (.if_icmp .ge 22, 3) := by decide +kernel
theorem dX7_hour_78 : decode cX7_hour 78 = .ok (.aload_n 0, 1) := by decide +kernel
theorem dX7_hour_79 : decode cX7_hour 79 = .ok (.iload_n 1, 1) := by decide +kernel
theorem dX7_hour_80 : decode cX7_hour 80 = .ok (.invokevirtual 105, 3) := by decide +kernel
theorem dX7_hour_83 : decode cX7_hour 83 = .ok (.ifCond .ne 8, 3) := by decide +kernel
theorem dX7_hour_86 : decode cX7_hour 86 = .ok (.aload_n 0, 1) := by decide +kernel
theorem dX7_hour_87 : decode cX7_hour 87 = .ok (.iload_n 1, 1) := by decide +kernel
theorem dX7_hour_88 : decode cX7_hour 88 = .ok (.invokevirtual 159, 3) := by decide +kernel
theorem dX7_hour_91 : decode cX7_hour 91 = .ok (.iinc 1 1, 3) := by decide +kernel
theorem dX7_hour_94 : decode cX7_hour 94 = .ok (.goto (-26), 3) := by decide +kernel
theorem dX7_hour_97 : decode cX7_hour 97 = .ok (.iconst 0, 1) := by decide +kernel
theorem dX7_hour_98 : decode cX7_hour 98 = .ok (.istore_n 1, 1) := by decide +kernel
theorem dX7_hour_99 : decode cX7_hour 99 = .ok (.iload_n 1, 1) := by decide +kernel
theorem dX7_hour_100 : decode cX7_hour 100 = .ok (.bipush 8, 2) := by decide +kernel
theorem dX7_hour_102 : decode cX7_hour 102 = .ok (.if_icmp .ge 14, 3) := by decide +kernel
theorem dX7_hour_105 : decode cX7_hour 105 = .ok (.aload_n 0, 1) := by decide +kernel
theorem dX7_hour_106 : decode cX7_hour 106 = .ok (.iload_n 1, 1) := by decide +kernel
theorem dX7_hour_107 : decode cX7_hour 107 = .ok (.invokevirtual 163, 3) := by decide +kernel
theorem dX7_hour_110 : decode cX7_hour 110 = .ok (.iinc 1 1, 3) := by decide +kernel
theorem dX7_hour_113 : decode cX7_hour 113 = .ok (.goto (-14), 3) := by decide +kernel
theorem dX7_hour_116 : decode cX7_hour 116 = .ok (.aload_n 0, 1) := by decide +kernel
theorem dX7_hour_117 : decode cX7_hour 117 = .ok (.invokevirtual 166, 3) := by decide +kernel
theorem dX7_hour_120 : decode cX7_hour 120 = .ok (.aload_n 0, 1) := by decide +kernel
theorem dX7_hour_121 : decode cX7_hour 121 = .ok (.invokevirtual 169, 3) := by decide +kernel
theorem dX7_hour_124 : decode cX7_hour 124 = .ok (.aload_n 0, 1) := by decide +kernel
theorem dX7_hour_125 : decode cX7_hour 125 = .ok (.getfield 9, 3) := by decide +kernel
theorem dX7_hour_128 : decode cX7_hour 128 = .ok (.iconst 0, 1) := by decide +kernel
theorem dX7_hour_129 : decode cX7_hour 129 = .ok (.dup2, 1) := by decide +kernel
theorem dX7_hour_130 : decode cX7_hour 130 = .ok (.iaload, 1) := by decide +kernel
theorem dX7_hour_131 : decode cX7_hour 131 = .ok (.iconst 1, 1) := by decide +kernel
theorem dX7_hour_132 : decode cX7_hour 132 = .ok (.iadd, 1) := by decide +kernel
theorem dX7_hour_133 : decode cX7_hour 133 = .ok (.iastore, 1) := by decide +kernel
theorem dX7_hour_134 : decode cX7_hour 134 = .ok (.return_, 1) := by decide +kernel
theorem dX7_goneNow_0 : decode cX7_goneNow 0 = .ok (.iconst 0, 1) := by decide +kernel
theorem dX7_goneNow_1 : decode cX7_goneNow 1 = .ok (.istore_n 1, 1) := by decide +kernel
theorem dX7_goneNow_2 : decode cX7_goneNow 2 = .ok (.iconst 0, 1) := by decide +kernel
theorem dX7_goneNow_3 : decode cX7_goneNow 3 = .ok (.istore_n 2, 1) := by decide +kernel
theorem dX7_goneNow_4 : decode cX7_goneNow 4 = .ok (.iload_n 2, 1) := by decide +kernel
theorem dX7_goneNow_5 : decode cX7_goneNow 5 = .ok (.aload_n 0, 1) := by decide +kernel
theorem dX7_goneNow_6 : decode cX7_goneNow 6 = .ok (.getfield 9, 3) := by decide +kernel
theorem dX7_goneNow_9 : decode cX7_goneNow 9 = .ok (.iconst 5, 1) := by decide +kernel
theorem dX7_goneNow_10 : decode cX7_goneNow 10 = .ok (.iaload, 1) := by decide +kernel
theorem dX7_goneNow_11 : decode cX7_goneNow 11 = .ok (.if_icmp .ge 27, 3) := by decide +kernel
theorem dX7_goneNow_14 : decode cX7_goneNow 14 = .ok (.iload_n 1, 1) := by decide +kernel
theorem dX7_goneNow_15 : decode cX7_goneNow 15 = .ok (.aload_n 0, 1) := by decide +kernel
theorem dX7_goneNow_16 : decode cX7_goneNow 16 = .ok (.iload_n 2, 1) := by decide +kernel
theorem dX7_goneNow_17 : decode cX7_goneNow 17 = .ok (.invokevirtual 105, 3) := by decide +kernel
theorem dX7_goneNow_20 : decode cX7_goneNow 20 = .ok (.ifCond .eq 9, 3) := by decide +kernel
theorem dX7_goneNow_23 : decode cX7_goneNow 23 = .ok (.iconst 1, 1) := by decide +kernel
theorem dX7_goneNow_24 : decode cX7_goneNow 24 = .ok (.iload_n 2, 1) := by decide +kernel
theorem dX7_goneNow_25 : decode cX7_goneNow 25 = .ok (.ishl, 1) := by decide +kernel
theorem dX7_goneNow_26 : decode cX7_goneNow 26 = .ok (.goto 4, 3) := by decide +kernel
theorem dX7_goneNow_29 : decode cX7_goneNow 29 = .ok (.iconst 0, 1) := by decide +kernel
theorem dX7_goneNow_30 : decode cX7_goneNow 30 = .ok (.ior, 1) := by decide +kernel
theorem dX7_goneNow_31 : decode cX7_goneNow 31 = .ok (.istore_n 1, 1) := by decide +kernel
theorem dX7_goneNow_32 : decode cX7_goneNow 32 = .ok (.iinc 2 1, 3) := by decide +kernel
theorem dX7_goneNow_35 : decode cX7_goneNow 35 = .ok (.goto (-31), 3) := by decide +kernel
theorem dX7_goneNow_38 : decode cX7_goneNow 38 = .ok (.iload_n 1, 1) := by decide +kernel
theorem dX7_goneNow_39 : decode cX7_goneNow 39 = .ok (.ireturn, 1) := by decide +kernel
theorem dX7_hours_0 : decode cX7_hours 0 = .ok (.iload_n 1, 1) := by decide +kernel
theorem dX7_hours_1 : decode cX7_hours 1 = .ok (.i2l, 1) := by decide +kernel
theorem dX7_hours_2 : decode cX7_hours 2 = .ok (.lconst 1, 1) := by decide +kernel
theorem dX7_hours_3 : decode cX7_hours 3 = .ok (.ldc2_w 172, 3) := by decide +kernel
theorem dX7_hours_6 : decode cX7_hours 6 = .ok (.invokestatic 51, 3) := by decide +kernel
theorem dX7_hours_9 : decode cX7_hours 9 = .ok (.ifCond .ne 10, 3) := by decide +kernel
theorem dX7_hours_12 : decode cX7_hours 12 = .ok (.aload_n 0, 1) := by decide +kernel
theorem dX7_hours_13 : decode cX7_hours 13 = .ok (.ldc 43, 2) := by decide +kernel
theorem dX7_hours_15 : decode cX7_hours 15 = .ok (.invokevirtual 45, 3) := by decide +kernel
theorem dX7_hours_18 : decode cX7_hours 18 = .ok (.ireturn, 1) := by decide +kernel
theorem dX7_hours_19 : decode cX7_hours 19 = .ok (.aload_n 0, 1) := by decide +kernel
theorem dX7_hours_20 : decode cX7_hours 20 = .ok (.getfield 9, 3) := by decide +kernel
theorem dX7_hours_23 : decode cX7_hours 23 = .ok (.iconst 0, 1) := by decide +kernel
theorem dX7_hours_24 : decode cX7_hours 24 = .ok (.iaload, 1) := by decide +kernel
theorem dX7_hours_25 : decode cX7_hours 25 = .ok (.iload_n 1, 1) := by decide +kernel
theorem dX7_hours_26 : decode cX7_hours 26 = .ok (.iadd, 1) := by decide +kernel
theorem dX7_hours_27 : decode cX7_hours 27 = .ok (.sipush 9999, 3) := by decide +kernel
theorem dX7_hours_30 : decode cX7_hours 30 = .ok (.if_icmp .le 10, 3) := by decide +kernel
theorem dX7_hours_33 : decode cX7_hours 33 = .ok (.aload_n 0, 1) := by decide +kernel
theorem dX7_hours_34 : decode cX7_hours 34 = .ok (.ldc 78, 2) := by decide +kernel
theorem dX7_hours_36 : decode cX7_hours 36 = .ok (.invokevirtual 45, 3) := by decide +kernel
theorem dX7_hours_39 : decode cX7_hours 39 = .ok (.ireturn, 1) := by decide +kernel
theorem dX7_hours_40 : decode cX7_hours 40 = .ok (.aload_n 0, 1) := by decide +kernel
theorem dX7_hours_41 : decode cX7_hours 41 = .ok (.invokevirtual 174, 3) := by decide +kernel
theorem dX7_hours_44 : decode cX7_hours 44 = .ok (.istore_n 2, 1) := by decide +kernel
theorem dX7_hours_45 : decode cX7_hours 45 = .ok (.iconst 0, 1) := by decide +kernel
theorem dX7_hours_46 : decode cX7_hours 46 = .ok (.istore_n 3, 1) := by decide +kernel
theorem dX7_hours_47 : decode cX7_hours 47 = .ok (.iload_n 3, 1) := by decide +kernel
theorem dX7_hours_48 : decode cX7_hours 48 = .ok (.iload_n 1, 1) := by decide +kernel
theorem dX7_hours_49 : decode cX7_hours 49 = .ok (.if_icmp .ge 13, 3) := by decide +kernel
theorem dX7_hours_52 : decode cX7_hours 52 = .ok (.aload_n 0, 1) := by decide +kernel
theorem dX7_hours_53 : decode cX7_hours 53 = .ok (.invokevirtual 177, 3) := by decide +kernel
theorem dX7_hours_56 : decode cX7_hours 56 = .ok (.iinc 3 1, 3) := by decide +kernel
theorem dX7_hours_59 : decode cX7_hours 59 = .ok (.goto (-12), 3) := by decide +kernel
theorem dX7_hours_62 : decode cX7_hours 62 = .ok (.aload_n 0, 1) := by decide +kernel
theorem dX7_hours_63 : decode cX7_hours 63 = .ok (.invokevirtual 174, 3) := by decide +kernel
theorem dX7_hours_66 : decode cX7_hours 66 = .ok (.iload_n 2, 1) := by decide +kernel
theorem dX7_hours_67 : decode cX7_hours 67 = .ok (.iconst (-1), 1) := by decide +kernel
theorem dX7_hours_68 : decode cX7_hours 68 = .ok (.ixor, 1) := by decide +kernel
theorem dX7_hours_69 : decode cX7_hours 69 = .ok (.iand, 1) := by decide +kernel
theorem dX7_hours_70 : decode cX7_hours 70 = .ok (.invokestatic 180, 3) := by decide +kernel
theorem dX7_hours_73 : decode cX7_hours 73 = .ok (.ireturn, 1) := by decide +kernel
theorem dX7_fall_0 : decode cX7_fall 0 = .ok (.aload_n 0, 1) := by decide +kernel
theorem dX7_fall_1 : decode cX7_fall 1 = .ok (.invokevirtual 174, 3) := by decide +kernel
theorem dX7_fall_4 : decode cX7_fall 4 = .ok (.istore_n 1, 1) := by decide +kernel
theorem dX7_fall_5 : decode cX7_fall 5 = .ok (.aload_n 0, 1) := by decide +kernel
theorem dX7_fall_6 : decode cX7_fall 6 = .ok (.invokevirtual 169, 3) := by decide +kernel
theorem dX7_fall_9 : decode cX7_fall 9 = .ok (.aload_n 0, 1) := by decide +kernel
theorem dX7_fall_10 : decode cX7_fall 10 = .ok (.invokevirtual 174, 3) := by decide +kernel
theorem dX7_fall_13 : decode cX7_fall 13 = .ok (.iload_n 1, 1) := by decide +kernel
theorem dX7_fall_14 : decode cX7_fall 14 = .ok (.iconst (-1), 1) := by decide +kernel
theorem dX7_fall_15 : decode cX7_fall 15 = .ok (.ixor, 1) := by decide +kernel
theorem dX7_fall_16 : decode cX7_fall 16 = .ok (.iand, 1) := by decide +kernel
theorem dX7_fall_17 : decode cX7_fall 17 = .ok (.invokestatic 180, 3) := by decide +kernel
theorem dX7_fall_20 : decode cX7_fall 20 = .ok (.ireturn, 1) := by decide +kernel
theorem dX7_loose_0 : decode cX7_loose 0 = .ok (.aload_n 0, 1) := by decide +kernel
theorem dX7_loose_1 : decode cX7_loose 1 = .ok (.invokevirtual 153, 3) := by decide +kernel
theorem dX7_loose_4 : decode cX7_loose 4 = .ok (.ireturn, 1) := by decide +kernel
theorem dX7_weak_0 : decode cX7_weak 0 = .ok (.aload_n 0, 1) := by decide +kernel
theorem dX7_weak_1 : decode cX7_weak 1 = .ok (.invokevirtual 156, 3) := by decide +kernel
theorem dX7_weak_4 : decode cX7_weak 4 = .ok (.ireturn, 1) := by decide +kernel
theorem dX7_allGrains_0 : decode cX7_allGrains 0 = .ok (.iconst 0, 1) := by decide +kernel
theorem dX7_allGrains_1 : decode cX7_allGrains 1 = .ok (.istore_n 1, 1) := by decide +kernel
theorem dX7_allGrains_2 : decode cX7_allGrains 2 = .ok (.iconst 0, 1) := by decide +kernel
theorem dX7_allGrains_3 : decode cX7_allGrains 3 = .ok (.istore_n 2, 1) := by decide +kernel
theorem dX7_allGrains_4 : decode cX7_allGrains 4 = .ok (.iload_n 2, 1) := by decide +kernel
theorem dX7_allGrains_5 : decode cX7_allGrains 5 = .ok (.aload_n 0, 1) := by decide +kernel
theorem dX7_allGrains_6 : decode cX7_allGrains 6 = .ok (.getfield 9, 3) := by decide +kernel
theorem dX7_allGrains_9 : decode cX7_allGrains 9 = .ok (.iconst 5, 1) := by decide +kernel
theorem dX7_allGrains_10 : decode cX7_allGrains 10 = .ok (.iaload, 1) := by decide +kernel
theorem dX7_allGrains_11 : decode cX7_allGrains 11 = .ok (.if_icmp .ge 17, 3) := by decide +kernel
theorem dX7_allGrains_14 : decode cX7_allGrains 14 = .ok (.iload_n 1, 1) := by decide +kernel
theorem dX7_allGrains_15 : decode cX7_allGrains 15 = .ok (.aload_n 0, 1) := by decide +kernel
theorem dX7_allGrains_16 : decode cX7_allGrains 16 = .ok (.iload_n 2, 1) := by decide +kernel
theorem dX7_allGrains_17 : decode cX7_allGrains 17 = .ok (.invokevirtual 111, 3) := by decide +kernel
theorem dX7_allGrains_20 : decode cX7_allGrains 20 = .ok (.iadd, 1) := by decide +kernel
theorem dX7_allGrains_21 : decode cX7_allGrains 21 = .ok (.istore_n 1, 1) := by decide +kernel
theorem dX7_allGrains_22 : decode cX7_allGrains 22 = .ok (.iinc 2 1, 3) := by decide +kernel
theorem dX7_allGrains_25 : decode cX7_allGrains 25 = .ok (.goto (-21), 3) := by decide +kernel
theorem dX7_allGrains_28 : decode cX7_allGrains 28 = .ok (.iload_n 1, 1) := by decide +kernel
theorem dX7_allGrains_29 : decode cX7_allGrains 29 = .ok (.ireturn, 1) := by decide +kernel
theorem dX7_ahead_0 : decode cX7_ahead 0 = .ok (.iload_n 1, 1) := by decide +kernel
theorem dX7_ahead_1 : decode cX7_ahead 1 = .ok (.i2l, 1) := by decide +kernel
theorem dX7_ahead_2 : decode cX7_ahead 2 = .ok (.lconst 0, 1) := by decide +kernel
theorem dX7_ahead_3 : decode cX7_ahead 3 = .ok (.ldc2_w 183, 3) := by decide +kernel
theorem dX7_ahead_6 : decode cX7_ahead 6 = .ok (.invokestatic 51, 3) := by decide +kernel
theorem dX7_ahead_9 : decode cX7_ahead 9 = .ok (.ifCond .eq 15, 3) := by decide +kernel
theorem dX7_ahead_12 : decode cX7_ahead 12 = .ok (.iload_n 2, 1) := by decide +kernel
theorem dX7_ahead_13 : decode cX7_ahead 13 = .ok (.i2l, 1) := by decide +kernel
theorem dX7_ahead_14 : decode cX7_ahead 14 = .ok (.lconst 0, 1) := by decide +kernel
theorem dX7_ahead_15 : decode cX7_ahead 15 = .ok (.ldc2_w 185, 3) := by decide +kernel
theorem dX7_ahead_18 : decode cX7_ahead 18 = .ok (.invokestatic 51, 3) := by decide +kernel
theorem dX7_ahead_21 : decode cX7_ahead 21 = .ok (.ifCond .ne 10, 3) := by decide +kernel
theorem dX7_ahead_24 : decode cX7_ahead 24 = .ok (.aload_n 0, 1) := by decide +kernel
theorem dX7_ahead_25 : decode cX7_ahead 25 = .ok (.ldc 43, 2) := by decide +kernel
theorem dX7_ahead_27 : decode cX7_ahead 27 = .ok (.invokevirtual 45, 3) := by decide +kernel
theorem dX7_ahead_30 : decode cX7_ahead 30 = .ok (.ireturn, 1) := by decide +kernel
theorem dX7_ahead_31 : decode cX7_ahead 31 = .ok (.aload_n 0, 1) := by decide +kernel
theorem dX7_ahead_32 : decode cX7_ahead 32 = .ok (.getfield 9, 3) := by decide +kernel
theorem dX7_ahead_35 : decode cX7_ahead 35 = .ok (.iconst 0, 1) := by decide +kernel
theorem dX7_ahead_36 : decode cX7_ahead 36 = .ok (.iaload, 1) := by decide +kernel
theorem dX7_ahead_37 : decode cX7_ahead 37 = .ok (.iload_n 1, 1) := by decide +kernel
theorem dX7_ahead_38 : decode cX7_ahead 38 = .ok (.iadd, 1) := by decide +kernel
theorem dX7_ahead_39 : decode cX7_ahead 39 = .ok (.sipush 9999, 3) := by decide +kernel
theorem dX7_ahead_42 : decode cX7_ahead 42 = .ok (.if_icmp .le 10, 3) := by decide +kernel
theorem dX7_ahead_45 : decode cX7_ahead 45 = .ok (.aload_n 0, 1) := by decide +kernel
theorem dX7_ahead_46 : decode cX7_ahead 46 = .ok (.ldc 78, 2) := by decide +kernel
theorem dX7_ahead_48 : decode cX7_ahead 48 = .ok (.invokevirtual 45, 3) := by decide +kernel
theorem dX7_ahead_51 : decode cX7_ahead 51 = .ok (.ireturn, 1) := by decide +kernel
theorem dX7_ahead_52 : decode cX7_ahead 52 = .ok (.aload_n 0, 1) := by decide +kernel
theorem dX7_ahead_53 : decode cX7_ahead 53 = .ok (.getfield 9, 3) := by decide +kernel
theorem dX7_ahead_56 : decode cX7_ahead 56 = .ok (.aload_n 0, 1) := by decide +kernel
theorem dX7_ahead_57 : decode cX7_ahead 57 = .ok (.getfield 16, 3) := by decide +kernel
theorem dX7_ahead_60 : decode cX7_ahead 60 = .ok (.invokestatic 187, 3) := by decide +kernel
theorem dX7_ahead_63 : decode cX7_ahead 63 = .ok (.aload_n 0, 1) := by decide +kernel
theorem dX7_ahead_64 : decode cX7_ahead 64 = .ok (.invokevirtual 174, 3) := by decide +kernel
theorem dX7_ahead_67 : decode cX7_ahead 67 = .ok (.istore_n 3, 1) := by decide +kernel
theorem dX7_ahead_68 : decode cX7_ahead 68 = .ok (.iconst 0, 1) := by decide +kernel
theorem dX7_ahead_69 : decode cX7_ahead 69 = .ok (.istore 4, 2) := by decide +kernel
theorem dX7_ahead_71 : decode cX7_ahead 71 = .ok (.iload 4, 2) := by decide +kernel
theorem dX7_ahead_73 : decode cX7_ahead 73 = .ok (.iload_n 1, 1) := by decide +kernel
theorem dX7_ahead_74 : decode cX7_ahead 74 = .ok (.if_icmp .ge 13, 3) := by decide +kernel
theorem dX7_ahead_77 : decode cX7_ahead 77 = .ok (.aload_n 0, 1) := by decide +kernel
theorem dX7_ahead_78 : decode cX7_ahead 78 = .ok (.invokevirtual 177, 3) := by decide +kernel
theorem dX7_ahead_81 : decode cX7_ahead 81 = .ok (.iinc 4 1, 3) := by decide +kernel
theorem dX7_ahead_84 : decode cX7_ahead 84 = .ok (.goto (-13), 3) := by decide +kernel
theorem dX7_ahead_87 : decode cX7_ahead 87 = .ok (.iload_n 2, 1) := by decide +kernel
theorem dX7_ahead_88 : decode cX7_ahead 88 = .ok (.ifCond .ne 17, 3) := by decide +kernel
theorem dX7_ahead_91 : decode cX7_ahead 91 = .ok (.aload_n 0, 1) := by decide +kernel
theorem dX7_ahead_92 : decode cX7_ahead 92 = .ok (.invokevirtual 174, 3) := by decide +kernel
theorem dX7_ahead_95 : decode cX7_ahead 95 = .ok (.iload_n 3, 1) := by decide +kernel
theorem dX7_ahead_96 : decode cX7_ahead 96 = .ok (.iconst (-1), 1) := by decide +kernel
theorem dX7_ahead_97 : decode cX7_ahead 97 = .ok (.ixor, 1) := by decide +kernel
theorem dX7_ahead_98 : decode cX7_ahead 98 = .ok (.iand, 1) := by decide +kernel
theorem dX7_ahead_99 : decode cX7_ahead 99 = .ok (.invokestatic 180, 3) := by decide +kernel
theorem dX7_ahead_102 : decode cX7_ahead 102 = .ok (.goto 47, 3) := by decide +kernel
theorem dX7_ahead_105 : decode cX7_ahead 105 = .ok (.iload_n 2, 1) := by decide +kernel
theorem dX7_ahead_106 : decode cX7_ahead 106 = .ok (.iconst 1, 1) := by decide +kernel
theorem dX7_ahead_107 : decode cX7_ahead 107 = .ok (.if_icmp .ne 10, 3) := by decide +kernel
theorem dX7_ahead_110 : decode cX7_ahead 110 = .ok (.aload_n 0, 1) := by decide +kernel
theorem dX7_ahead_111 : decode cX7_ahead 111 = .ok (.invokevirtual 191, 3) := by decide +kernel
theorem dX7_ahead_114 : decode cX7_ahead 114 = .ok (.goto 35, 3) := by decide +kernel
theorem dX7_ahead_117 : decode cX7_ahead 117 = .ok (.iload_n 2, 1) := by decide +kernel
theorem dX7_ahead_118 : decode cX7_ahead 118 = .ok (.iconst 2, 1) := by decide +kernel
theorem dX7_ahead_119 : decode cX7_ahead 119 = .ok (.if_icmp .ne 12, 3) := by decide +kernel
theorem dX7_ahead_122 : decode cX7_ahead 122 = .ok (.aload_n 0, 1) := by decide +kernel
theorem dX7_ahead_123 : decode cX7_ahead 123 = .ok (.getfield 9, 3) := by decide +kernel
theorem dX7_ahead_126 : decode cX7_ahead 126 = .ok (.iconst 2, 1) := by decide +kernel
theorem dX7_ahead_127 : decode cX7_ahead 127 = .ok (.iaload, 1) := by decide +kernel
theorem dX7_ahead_128 : decode cX7_ahead 128 = .ok (.goto 21, 3) := by decide +kernel
theorem dX7_ahead_131 : decode cX7_ahead 131 = .ok (.iload_n 2, 1) := by decide +kernel
theorem dX7_ahead_132 : decode cX7_ahead 132 = .ok (.iconst 3, 1) := by decide +kernel
theorem dX7_ahead_133 : decode cX7_ahead 133 = .ok (.if_icmp .ne 12, 3) := by decide +kernel
theorem dX7_ahead_136 : decode cX7_ahead 136 = .ok (.aload_n 0, 1) := by decide +kernel
theorem dX7_ahead_137 : decode cX7_ahead 137 = .ok (.getfield 9, 3) := by decide +kernel
theorem dX7_ahead_140 : decode cX7_ahead 140 = .ok (.iconst 3, 1) := by decide +kernel
theorem dX7_ahead_141 : decode cX7_ahead 141 = .ok (.iaload, 1) := by decide +kernel
theorem dX7_ahead_142 : decode cX7_ahead 142 = .ok (.goto 7, 3) := by decide +kernel
theorem dX7_ahead_145 : decode cX7_ahead 145 = .ok (.aload_n 0, 1) := by decide +kernel
theorem dX7_ahead_146 : decode cX7_ahead 146 = .ok (.invokevirtual 174, 3) := by decide +kernel
theorem dX7_ahead_149 : decode cX7_ahead 149 = .ok (.istore 4, 2) := by decide +kernel
theorem dX7_ahead_151 : decode cX7_ahead 151 = .ok (.aload_n 0, 1) := by decide +kernel
theorem dX7_ahead_152 : decode cX7_ahead 152 = .ok (.getfield 16, 3) := by decide +kernel
theorem dX7_ahead_155 : decode cX7_ahead 155 = .ok (.aload_n 0, 1) := by decide +kernel
theorem dX7_ahead_156 : decode cX7_ahead 156 = .ok (.getfield 9, 3) := by decide +kernel
theorem dX7_ahead_159 : decode cX7_ahead 159 = .ok (.invokestatic 187, 3) := by decide +kernel
theorem dX7_ahead_162 : decode cX7_ahead 162 = .ok (.iload 4, 2) := by decide +kernel
theorem dX7_ahead_164 : decode cX7_ahead 164 = .ok (.ireturn, 1) := by decide +kernel
theorem dX7_goneIn_0 : decode cX7_goneIn 0 = .ok (.aload_n 0, 1) := by decide +kernel
theorem dX7_goneIn_1 : decode cX7_goneIn 1 = .ok (.getfield 9, 3) := by decide +kernel
theorem dX7_goneIn_4 : decode cX7_goneIn 4 = .ok (.aload_n 0, 1) := by decide +kernel
theorem dX7_goneIn_5 : decode cX7_goneIn 5 = .ok (.getfield 16, 3) := by decide +kernel
theorem dX7_goneIn_8 : decode cX7_goneIn 8 = .ok (.invokestatic 187, 3) := by decide +kernel
theorem dX7_goneIn_11 : decode cX7_goneIn 11 = .ok (.iconst 0, 1) := by decide +kernel
theorem dX7_goneIn_12 : decode cX7_goneIn 12 = .ok (.istore_n 3, 1) := by decide +kernel
theorem dX7_goneIn_13 : decode cX7_goneIn 13 = .ok (.iload_n 3, 1) := by decide +kernel
theorem dX7_goneIn_14 : decode cX7_goneIn 14 = .ok (.iload_n 2, 1) := by decide +kernel
theorem dX7_goneIn_15 : decode cX7_goneIn 15 = .ok (.if_icmp .gt 26, 3) := by decide +kernel
theorem dX7_goneIn_18 : decode cX7_goneIn 18 = .ok (.aload_n 0, 1) := by decide +kernel
theorem dX7_goneIn_19 : decode cX7_goneIn 19 = .ok (.iload_n 1, 1) := by decide +kernel
theorem dX7_goneIn_20 : decode cX7_goneIn 20 = .ok (.invokevirtual 105, 3) := by decide +kernel
theorem dX7_goneIn_23 : decode cX7_goneIn 23 = .ok (.ifCond .ne 18, 3) := by decide +kernel
theorem dX7_goneIn_26 : decode cX7_goneIn 26 = .ok (.iinc 3 1, 3) := by decide +kernel
theorem dX7_goneIn_29 : decode cX7_goneIn 29 = .ok (.iload_n 3, 1) := by decide +kernel
theorem dX7_goneIn_30 : decode cX7_goneIn 30 = .ok (.iload_n 2, 1) := by decide +kernel
theorem dX7_goneIn_31 : decode cX7_goneIn 31 = .ok (.if_icmp .gt (-18), 3) := by decide +kernel
theorem dX7_goneIn_34 : decode cX7_goneIn 34 = .ok (.aload_n 0, 1) := by decide +kernel
theorem dX7_goneIn_35 : decode cX7_goneIn 35 = .ok (.invokevirtual 177, 3) := by decide +kernel
theorem dX7_goneIn_38 : decode cX7_goneIn 38 = .ok (.goto (-25), 3) := by decide +kernel
theorem dX7_goneIn_41 : decode cX7_goneIn 41 = .ok (.aload_n 0, 1) := by decide +kernel
theorem dX7_goneIn_42 : decode cX7_goneIn 42 = .ok (.getfield 16, 3) := by decide +kernel
theorem dX7_goneIn_45 : decode cX7_goneIn 45 = .ok (.aload_n 0, 1) := by decide +kernel
theorem dX7_goneIn_46 : decode cX7_goneIn 46 = .ok (.getfield 9, 3) := by decide +kernel
theorem dX7_goneIn_49 : decode cX7_goneIn 49 = .ok (.invokestatic 187, 3) := by decide +kernel
theorem dX7_goneIn_52 : decode cX7_goneIn 52 = .ok (.iload_n 3, 1) := by decide +kernel
theorem dX7_goneIn_53 : decode cX7_goneIn 53 = .ok (.ireturn, 1) := by decide +kernel
theorem dX7_isFarOn_0 : decode cX7_isFarOn 0 = .ok (.aload_n 0, 1) := by decide +kernel
theorem dX7_isFarOn_1 : decode cX7_isFarOn 1 = .ok (.getfield 9, 3) := by decide +kernel
theorem dX7_isFarOn_4 : decode cX7_isFarOn 4 = .ok (.iconst 0, 1) := by decide +kernel
theorem dX7_isFarOn_5 : decode cX7_isFarOn 5 = .ok (.iaload, 1) := by decide +kernel
theorem dX7_isFarOn_6 : decode cX7_isFarOn 6 = .ok (.iload_n 1, 1) := by decide +kernel
theorem dX7_isFarOn_7 : decode cX7_isFarOn 7 = .ok (.iadd, 1) := by decide +kernel
theorem dX7_isFarOn_8 : decode cX7_isFarOn 8 = .ok (.sipush 9999, 3) := by decide +kernel
theorem dX7_isFarOn_11 : decode cX7_isFarOn 11 = .ok (.if_icmp .le 7, 3) := by decide +kernel
theorem dX7_isFarOn_14 : decode cX7_isFarOn 14 = .ok (.iconst 1, 1) := by decide +kernel
theorem dX7_isFarOn_15 : decode cX7_isFarOn 15 = .ok (.goto 4, 3) := by decide +kernel
theorem dX7_isFarOn_18 : decode cX7_isFarOn 18 = .ok (.iconst 0, 1) := by decide +kernel
theorem dX7_isFarOn_19 : decode cX7_isFarOn 19 = .ok (.ireturn, 1) := by decide +kernel
theorem dX7_goes_0 : decode cX7_goes 0 = .ok (.aload_n 0, 1) := by decide +kernel
theorem dX7_goes_1 : decode cX7_goes 1 = .ok (.iload_n 1, 1) := by decide +kernel
theorem dX7_goes_2 : decode cX7_goes 2 = .ok (.invokevirtual 114, 3) := by decide +kernel
theorem dX7_goes_5 : decode cX7_goes 5 = .ok (.ifCond .ne 10, 3) := by decide +kernel
theorem dX7_goes_8 : decode cX7_goes 8 = .ok (.aload_n 0, 1) := by decide +kernel
theorem dX7_goes_9 : decode cX7_goes 9 = .ok (.ldc 43, 2) := by decide +kernel
theorem dX7_goes_11 : decode cX7_goes 11 = .ok (.invokevirtual 45, 3) := by decide +kernel
theorem dX7_goes_14 : decode cX7_goes 14 = .ok (.ireturn, 1) := by decide +kernel
theorem dX7_goes_15 : decode cX7_goes 15 = .ok (.aload_n 0, 1) := by decide +kernel
theorem dX7_goes_16 : decode cX7_goes 16 = .ok (.iload_n 1, 1) := by decide +kernel
theorem dX7_goes_17 : decode cX7_goes 17 = .ok (.invokevirtual 105, 3) := by decide +kernel
theorem dX7_goes_20 : decode cX7_goes 20 = .ok (.ifCond .ne 12, 3) := by decide +kernel
theorem dX7_goes_23 : decode cX7_goes 23 = .ok (.aload_n 0, 1) := by decide +kernel
theorem dX7_goes_24 : decode cX7_goes 24 = .ok (.bipush 96, 2) := by decide +kernel
theorem dX7_goes_26 : decode cX7_goes 26 = .ok (.invokevirtual 194, 3) := by decide +kernel
theorem dX7_goes_29 : decode cX7_goes 29 = .ok (.ifCond .eq 10, 3) := by decide +kernel
theorem dX7_goes_32 : decode cX7_goes 32 = .ok (.aload_n 0, 1) := by decide +kernel
theorem dX7_goes_33 : decode cX7_goes 33 = .ok (.ldc 78, 2) := by decide +kernel
theorem dX7_goes_35 : decode cX7_goes 35 = .ok (.invokevirtual 45, 3) := by decide +kernel
theorem dX7_goes_38 : decode cX7_goes 38 = .ok (.ireturn, 1) := by decide +kernel
theorem dX7_goes_39 : decode cX7_goes 39 = .ok (.aload_n 0, 1) := by decide +kernel
theorem dX7_goes_40 : decode cX7_goes 40 = .ok (.iload_n 1, 1) := by decide +kernel
theorem dX7_goes_41 : decode cX7_goes 41 = .ok (.bipush 96, 2) := by decide +kernel
theorem dX7_goes_43 : decode cX7_goes 43 = .ok (.invokevirtual 197, 3) := by decide +kernel
theorem dX7_goes_46 : decode cX7_goes 46 = .ok (.istore_n 2, 1) := by decide +kernel
theorem dX7_goes_47 : decode cX7_goes 47 = .ok (.iload_n 2, 1) := by decide +kernel
theorem dX7_goes_48 : decode cX7_goes 48 = .ok (.bipush 96, 2) := by decide +kernel
theorem dX7_goes_50 : decode cX7_goes 50 = .ok (.if_icmp .le 12, 3) := by decide +kernel
theorem dX7_goes_53 : decode cX7_goes 53 = .ok (.aload_n 0, 1) := by decide +kernel
theorem dX7_goes_54 : decode cX7_goes 54 = .ok (.ldc 44, 2) := by decide +kernel
theorem dX7_goes_56 : decode cX7_goes 56 = .ok (.invokevirtual 45, 3) := by decide +kernel
theorem dX7_goes_59 : decode cX7_goes 59 = .ok (.goto 4, 3) := by decide +kernel
theorem dX7_goes_62 : decode cX7_goes 62 = .ok (.iload_n 2, 1) := by decide +kernel
theorem dX7_goes_63 : decode cX7_goes 63 = .ok (.ireturn, 1) := by decide +kernel
theorem dX7_held_0 : decode cX7_held 0 = .ok (.aload_n 0, 1) := by decide +kernel
theorem dX7_held_1 : decode cX7_held 1 = .ok (.getfield 9, 3) := by decide +kernel
theorem dX7_held_4 : decode cX7_held 4 = .ok (.aload_n 0, 1) := by decide +kernel
theorem dX7_held_5 : decode cX7_held 5 = .ok (.getfield 16, 3) := by decide +kernel
theorem dX7_held_8 : decode cX7_held 8 = .ok (.invokestatic 187, 3) := by decide +kernel
theorem dX7_held_11 : decode cX7_held 11 = .ok (.aload_n 0, 1) := by decide +kernel
theorem dX7_held_12 : decode cX7_held 12 = .ok (.invokevirtual 174, 3) := by decide +kernel
theorem dX7_held_15 : decode cX7_held 15 = .ok (.istore_n 2, 1) := by decide +kernel
theorem dX7_held_16 : decode cX7_held 16 = .ok (.iconst 0, 1) := by decide +kernel
theorem dX7_held_17 : decode cX7_held 17 = .ok (.istore_n 3, 1) := by decide +kernel
theorem dX7_held_18 : decode cX7_held 18 = .ok (.iconst 1, 1) := by decide +kernel
theorem dX7_held_19 : decode cX7_held 19 = .ok (.istore 4, 2) := by decide +kernel
theorem dX7_held_21 : decode cX7_held 21 = .ok (.iload_n 3, 1) := by decide +kernel
theorem dX7_held_22 : decode cX7_held 22 = .ok (.iload_n 1, 1) := by decide +kernel
theorem dX7_held_23 : decode cX7_held 23 = .ok (.if_icmp .ge 43, 3) := by decide +kernel
theorem dX7_held_26 : decode cX7_held 26 = .ok (.iload 4, 2) := by decide +kernel
theorem dX7_held_28 : decode cX7_held 28 = .ok (.ifCond .eq 38, 3) := by decide +kernel
theorem dX7_held_31 : decode cX7_held 31 = .ok (.aload_n 0, 1) := by decide +kernel
theorem dX7_held_32 : decode cX7_held 32 = .ok (.invokevirtual 177, 3) := by decide +kernel
theorem dX7_held_35 : decode cX7_held 35 = .ok (.aload_n 0, 1) := by decide +kernel
theorem dX7_held_36 : decode cX7_held 36 = .ok (.invokevirtual 174, 3) := by decide +kernel
theorem dX7_held_39 : decode cX7_held 39 = .ok (.iload_n 2, 1) := by decide +kernel
theorem dX7_held_40 : decode cX7_held 40 = .ok (.if_icmp .ne 7, 3) := by decide +kernel
theorem dX7_held_43 : decode cX7_held 43 = .ok (.iconst 1, 1) := by decide +kernel
theorem dX7_held_44 : decode cX7_held 44 = .ok (.goto 4, 3) := by decide +kernel
theorem dX7_held_47 : decode cX7_held 47 = .ok (.iconst 0, 1) := by decide +kernel
theorem dX7_held_48 : decode cX7_held 48 = .ok (.istore 4, 2) := by decide +kernel
theorem dX7_held_50 : decode cX7_held 50 = .ok (.iload_n 3, 1) := by decide +kernel
theorem dX7_held_51 : decode cX7_held 51 = .ok (.iload 4, 2) := by decide +kernel
theorem dX7_held_53 : decode cX7_held 53 = .ok (.ifCond .eq 7, 3) := by decide +kernel
theorem dX7_held_56 : decode cX7_held 56 = .ok (.iconst 1, 1) := by decide +kernel
theorem dX7_held_57 : decode cX7_held 57 = .ok (.goto 4, 3) := by decide +kernel
theorem dX7_held_60 : decode cX7_held 60 = .ok (.iconst 0, 1) := by decide +kernel
theorem dX7_held_61 : decode cX7_held 61 = .ok (.iadd, 1) := by decide +kernel
theorem dX7_held_62 : decode cX7_held 62 = .ok (.istore_n 3, 1) := by decide +kernel
theorem dX7_held_63 : decode cX7_held 63 = .ok (.goto (-42), 3) := by decide +kernel
theorem dX7_held_66 : decode cX7_held 66 = .ok (.aload_n 0, 1) := by decide +kernel
theorem dX7_held_67 : decode cX7_held 67 = .ok (.getfield 16, 3) := by decide +kernel
theorem dX7_held_70 : decode cX7_held 70 = .ok (.aload_n 0, 1) := by decide +kernel
theorem dX7_held_71 : decode cX7_held 71 = .ok (.getfield 9, 3) := by decide +kernel
theorem dX7_held_74 : decode cX7_held 74 = .ok (.invokestatic 187, 3) := by decide +kernel
theorem dX7_held_77 : decode cX7_held 77 = .ok (.iload_n 3, 1) := by decide +kernel
theorem dX7_held_78 : decode cX7_held 78 = .ok (.ireturn, 1) := by decide +kernel
theorem dX7_holds_0 : decode cX7_holds 0 = .ok (.aload_n 0, 1) := by decide +kernel
theorem dX7_holds_1 : decode cX7_holds 1 = .ok (.bipush 96, 2) := by decide +kernel
theorem dX7_holds_3 : decode cX7_holds 3 = .ok (.invokevirtual 194, 3) := by decide +kernel
theorem dX7_holds_6 : decode cX7_holds 6 = .ok (.ifCond .eq 12, 3) := by decide +kernel
theorem dX7_holds_9 : decode cX7_holds 9 = .ok (.aload_n 0, 1) := by decide +kernel
theorem dX7_holds_10 : decode cX7_holds 10 = .ok (.ldc 78, 2) := by decide +kernel
theorem dX7_holds_12 : decode cX7_holds 12 = .ok (.invokevirtual 45, 3) := by decide +kernel
theorem dX7_holds_15 : decode cX7_holds 15 = .ok (.goto 9, 3) := by decide +kernel
theorem dX7_holds_18 : decode cX7_holds 18 = .ok (.aload_n 0, 1) := by decide +kernel
theorem dX7_holds_19 : decode cX7_holds 19 = .ok (.bipush 96, 2) := by decide +kernel
theorem dX7_holds_21 : decode cX7_holds 21 = .ok (.invokevirtual 200, 3) := by decide +kernel
theorem dX7_holds_24 : decode cX7_holds 24 = .ok (.ireturn, 1) := by decide +kernel
theorem dX7_lights_0 : decode cX7_lights 0 = .ok (.iconst 0, 1) := by decide +kernel
theorem dX7_lights_1 : decode cX7_lights 1 = .ok (.istore_n 2, 1) := by decide +kernel
theorem dX7_lights_2 : decode cX7_lights 2 = .ok (.iload_n 2, 1) := by decide +kernel
theorem dX7_lights_3 : decode cX7_lights 3 = .ok (.bipush 6, 2) := by decide +kernel
theorem dX7_lights_5 : decode cX7_lights 5 = .ok (.if_icmp .ge 27, 3) := by decide +kernel
theorem dX7_lights_8 : decode cX7_lights 8 = .ok (.aload_n 0, 1) := by decide +kernel
theorem dX7_lights_9 : decode cX7_lights 9 = .ok (.getfield 9, 3) := by decide +kernel
theorem dX7_lights_12 : decode cX7_lights 12 = .ok (.bipush 6, 2) := by decide +kernel
theorem dX7_lights_14 : decode cX7_lights 14 = .ok (.iconst 3, 1) := by decide +kernel
theorem dX7_lights_15 : decode cX7_lights 15 = .ok (.iload_n 2, 1) := by decide +kernel
theorem dX7_lights_16 : decode cX7_lights 16 = .ok (.imul, 1) := by decide +kernel
theorem dX7_lights_17 : decode cX7_lights 17 = .ok (.iadd, 1) := by decide +kernel
theorem dX7_lights_18 : decode cX7_lights 18 = .ok (.iconst 2, 1) := by decide +kernel
theorem dX7_lights_19 : decode cX7_lights 19 = .ok (.iadd, 1) := by decide +kernel
theorem dX7_lights_20 : decode cX7_lights 20 = .ok (.iload_n 1, 1) := by decide +kernel
theorem dX7_lights_21 : decode cX7_lights 21 = .ok (.iload_n 2, 1) := by decide +kernel
theorem dX7_lights_22 : decode cX7_lights 22 = .ok (.ishr, 1) := by decide +kernel
theorem dX7_lights_23 : decode cX7_lights 23 = .ok (.iconst 1, 1) := by decide +kernel
theorem dX7_lights_24 : decode cX7_lights 24 = .ok (.iand, 1) := by decide +kernel
theorem dX7_lights_25 : decode cX7_lights 25 = .ok (.iastore, 1) := by decide +kernel
theorem dX7_lights_26 : decode cX7_lights 26 = .ok (.iinc 2 1, 3) := by decide +kernel
theorem dX7_lights_29 : decode cX7_lights 29 = .ok (.goto (-27), 3) := by decide +kernel
theorem dX7_lights_32 : decode cX7_lights 32 = .ok (.return_, 1) := by decide +kernel
theorem dX7_deal_0 : decode cX7_deal 0 = .ok (.iload_n 1, 1) := by decide +kernel
theorem dX7_deal_1 : decode cX7_deal 1 = .ok (.i2l, 1) := by decide +kernel
theorem dX7_deal_2 : decode cX7_deal 2 = .ok (.lconst 1, 1) := by decide +kernel
theorem dX7_deal_3 : decode cX7_deal 3 = .ok (.ldc2_w 172, 3) := by decide +kernel
theorem dX7_deal_6 : decode cX7_deal 6 = .ok (.invokestatic 51, 3) := by decide +kernel
theorem dX7_deal_9 : decode cX7_deal 9 = .ok (.ifCond .ne 10, 3) := by decide +kernel
theorem dX7_deal_12 : decode cX7_deal 12 = .ok (.aload_n 0, 1) := by decide +kernel
theorem dX7_deal_13 : decode cX7_deal 13 = .ok (.ldc 43, 2) := by decide +kernel
theorem dX7_deal_15 : decode cX7_deal 15 = .ok (.invokevirtual 45, 3) := by decide +kernel
theorem dX7_deal_18 : decode cX7_deal 18 = .ok (.ireturn, 1) := by decide +kernel
theorem dX7_deal_19 : decode cX7_deal 19 = .ok (.aload_n 0, 1) := by decide +kernel
theorem dX7_deal_20 : decode cX7_deal 20 = .ok (.iload_n 1, 1) := by decide +kernel
theorem dX7_deal_21 : decode cX7_deal 21 = .ok (.invokevirtual 194, 3) := by decide +kernel
theorem dX7_deal_24 : decode cX7_deal 24 = .ok (.ifCond .eq 10, 3) := by decide +kernel
theorem dX7_deal_27 : decode cX7_deal 27 = .ok (.aload_n 0, 1) := by decide +kernel
theorem dX7_deal_28 : decode cX7_deal 28 = .ok (.ldc 78, 2) := by decide +kernel
theorem dX7_deal_30 : decode cX7_deal 30 = .ok (.invokevirtual 45, 3) := by decide +kernel
theorem dX7_deal_33 : decode cX7_deal 33 = .ok (.ireturn, 1) := by decide +kernel
theorem dX7_deal_34 : decode cX7_deal 34 = .ok (.aload_n 0, 1) := by decide +kernel
theorem dX7_deal_35 : decode cX7_deal 35 = .ok (.getfield 9, 3) := by decide +kernel
theorem dX7_deal_38 : decode cX7_deal 38 = .ok (.aload_n 0, 1) := by decide +kernel
theorem dX7_deal_39 : decode cX7_deal 39 = .ok (.getfield 19, 3) := by decide +kernel
theorem dX7_deal_42 : decode cX7_deal 42 = .ok (.invokestatic 187, 3) := by decide +kernel
theorem dX7_deal_45 : decode cX7_deal 45 = .ok (.iconst (-1), 1) := by decide +kernel
theorem dX7_deal_46 : decode cX7_deal 46 = .ok (.istore_n 2, 1) := by decide +kernel
theorem dX7_deal_47 : decode cX7_deal 47 = .ok (.iconst 0, 1) := by decide +kernel
theorem dX7_deal_48 : decode cX7_deal 48 = .ok (.istore_n 3, 1) := by decide +kernel
theorem dX7_deal_49 : decode cX7_deal 49 = .ok (.iconst 0, 1) := by decide +kernel
theorem dX7_deal_50 : decode cX7_deal 50 = .ok (.istore 4, 2) := by decide +kernel
theorem dX7_deal_52 : decode cX7_deal 52 = .ok (.iload 4, 2) := by decide +kernel
theorem dX7_deal_54 : decode cX7_deal 54 = .ok (.bipush 64, 2) := by decide +kernel
theorem dX7_deal_56 : decode cX7_deal 56 = .ok (.if_icmp .ge 47, 3) := by decide +kernel
theorem dX7_deal_59 : decode cX7_deal 59 = .ok (.aload_n 0, 1) := by decide +kernel
theorem dX7_deal_60 : decode cX7_deal 60 = .ok (.iload 4, 2) := by decide +kernel
theorem dX7_deal_62 : decode cX7_deal 62 = .ok (.invokevirtual 203, 3) := by decide +kernel
theorem dX7_deal_65 : decode cX7_deal 65 = .ok (.iload_n 2, 1) := by decide +kernel
theorem dX7_deal_66 : decode cX7_deal 66 = .ok (.ifCond .lt 11, 3) := by decide +kernel
theorem dX7_deal_69 : decode cX7_deal 69 = .ok (.aload_n 0, 1) := by decide +kernel
theorem dX7_deal_70 : decode cX7_deal 70 = .ok (.invokevirtual 206, 3) := by decide +kernel
theorem dX7_deal_73 : decode cX7_deal 73 = .ok (.iload_n 3, 1) := by decide +kernel
theorem dX7_deal_74 : decode cX7_deal 74 = .ok (.if_icmp .le 23, 3) := by decide +kernel
theorem dX7_deal_77 : decode cX7_deal 77 = .ok (.aload_n 0, 1) := by decide +kernel
theorem dX7_deal_78 : decode cX7_deal 78 = .ok (.iload_n 1, 1) := by decide +kernel
theorem dX7_deal_79 : decode cX7_deal 79 = .ok (.invokevirtual 200, 3) := by decide +kernel
theorem dX7_deal_82 : decode cX7_deal 82 = .ok (.iload_n 1, 1) := by decide +kernel
theorem dX7_deal_83 : decode cX7_deal 83 = .ok (.if_icmp .ge 6, 3) := by decide +kernel
theorem dX7_deal_86 : decode cX7_deal 86 = .ok (.goto 11, 3) := by decide +kernel
theorem dX7_deal_89 : decode cX7_deal 89 = .ok (.iload 4, 2) := by decide +kernel
theorem dX7_deal_91 : decode cX7_deal 91 = .ok (.istore_n 2, 1) := by decide +kernel
theorem dX7_deal_92 : decode cX7_deal 92 = .ok (.aload_n 0, 1) := by decide +kernel
theorem dX7_deal_93 : decode cX7_deal 93 = .ok (.invokevirtual 206, 3) := by decide +kernel
theorem dX7_deal_96 : decode cX7_deal 96 = .ok (.istore_n 3, 1) := by decide +kernel
theorem dX7_deal_97 : decode cX7_deal 97 = .ok (.iinc 4 1, 3) := by decide +kernel
theorem dX7_deal_100 : decode cX7_deal 100 = .ok (.goto (-48), 3) := by decide +kernel
theorem dX7_deal_103 : decode cX7_deal 103 = .ok (.aload_n 0, 1) := by decide +kernel
theorem dX7_deal_104 : decode cX7_deal 104 = .ok (.getfield 19, 3) := by decide +kernel
theorem dX7_deal_107 : decode cX7_deal 107 = .ok (.aload_n 0, 1) := by decide +kernel
theorem dX7_deal_108 : decode cX7_deal 108 = .ok (.getfield 9, 3) := by decide +kernel
theorem dX7_deal_111 : decode cX7_deal 111 = .ok (.invokestatic 187, 3) := by decide +kernel
theorem dX7_deal_114 : decode cX7_deal 114 = .ok (.aload_n 0, 1) := by decide +kernel
theorem dX7_deal_115 : decode cX7_deal 115 = .ok (.iload_n 2, 1) := by decide +kernel
theorem dX7_deal_116 : decode cX7_deal 116 = .ok (.invokevirtual 209, 3) := by decide +kernel
theorem dX7_deal_119 : decode cX7_deal 119 = .ok (.ireturn, 1) := by decide +kernel
theorem dX7_bears_0 : decode cX7_bears 0 = .ok (.iload_n 1, 1) := by decide +kernel
theorem dX7_bears_1 : decode cX7_bears 1 = .ok (.i2l, 1) := by decide +kernel
theorem dX7_bears_2 : decode cX7_bears 2 = .ok (.lconst 1, 1) := by decide +kernel
theorem dX7_bears_3 : decode cX7_bears 3 = .ok (.ldc2_w 172, 3) := by decide +kernel
theorem dX7_bears_6 : decode cX7_bears 6 = .ok (.invokestatic 51, 3) := by decide +kernel
theorem dX7_bears_9 : decode cX7_bears 9 = .ok (.ifCond .ne 10, 3) := by decide +kernel
theorem dX7_bears_12 : decode cX7_bears 12 = .ok (.aload_n 0, 1) := by decide +kernel
theorem dX7_bears_13 : decode cX7_bears 13 = .ok (.ldc 43, 2) := by decide +kernel
theorem dX7_bears_15 : decode cX7_bears 15 = .ok (.invokevirtual 45, 3) := by decide +kernel
theorem dX7_bears_18 : decode cX7_bears 18 = .ok (.ireturn, 1) := by decide +kernel
theorem dX7_bears_19 : decode cX7_bears 19 = .ok (.aload_n 0, 1) := by decide +kernel
theorem dX7_bears_20 : decode cX7_bears 20 = .ok (.iload_n 1, 1) := by decide +kernel
theorem dX7_bears_21 : decode cX7_bears 21 = .ok (.invokevirtual 194, 3) := by decide +kernel
theorem dX7_bears_24 : decode cX7_bears 24 = .ok (.ifCond .eq 10, 3) := by decide +kernel
theorem dX7_bears_27 : decode cX7_bears 27 = .ok (.aload_n 0, 1) := by decide +kernel
theorem dX7_bears_28 : decode cX7_bears 28 = .ok (.ldc 78, 2) := by decide +kernel
theorem dX7_bears_30 : decode cX7_bears 30 = .ok (.invokevirtual 45, 3) := by decide +kernel
theorem dX7_bears_33 : decode cX7_bears 33 = .ok (.ireturn, 1) := by decide +kernel
theorem dX7_bears_34 : decode cX7_bears 34 = .ok (.aload_n 0, 1) := by decide +kernel
theorem dX7_bears_35 : decode cX7_bears 35 = .ok (.getfield 9, 3) := by decide +kernel
theorem dX7_bears_38 : decode cX7_bears 38 = .ok (.iconst 1, 1) := by decide +kernel
theorem dX7_bears_39 : decode cX7_bears 39 = .ok (.iaload, 1) := by decide +kernel
theorem dX7_bears_40 : decode cX7_bears 40 = .ok (.istore_n 2, 1) := by decide +kernel
theorem dX7_bears_41 : decode cX7_bears 41 = .ok (.bipush 20, 2) := by decide +kernel
theorem dX7_bears_43 : decode cX7_bears 43 = .ok (.istore_n 3, 1) := by decide +kernel
theorem dX7_bears_44 : decode cX7_bears 44 = .ok (.iconst 0, 1) := by decide +kernel
theorem dX7_bears_45 : decode cX7_bears 45 = .ok (.istore 4, 2) := by decide +kernel
theorem dX7_bears_47 : decode cX7_bears 47 = .ok (.iload_n 3, 1) := by decide +kernel
theorem dX7_bears_48 : decode cX7_bears 48 = .ok (.bipush (-20), 2) := by decide +kernel
theorem dX7_bears_50 : decode cX7_bears 50 = .ok (.if_icmp .lt 47, 3) := by decide +kernel
theorem dX7_bears_53 : decode cX7_bears 53 = .ok (.iload 4, 2) := by decide +kernel
theorem dX7_bears_55 : decode cX7_bears 55 = .ok (.ifCond .ne 42, 3) := by decide +kernel
theorem dX7_bears_58 : decode cX7_bears 58 = .ok (.aload_n 0, 1) := by decide +kernel
theorem dX7_bears_59 : decode cX7_bears 59 = .ok (.getfield 9, 3) := by decide +kernel
theorem dX7_bears_62 : decode cX7_bears 62 = .ok (.iconst 1, 1) := by decide +kernel
theorem dX7_bears_63 : decode cX7_bears 63 = .ok (.iload_n 3, 1) := by decide +kernel
theorem dX7_bears_64 : decode cX7_bears 64 = .ok (.iastore, 1) := by decide +kernel
theorem dX7_bears_65 : decode cX7_bears 65 = .ok (.aload_n 0, 1) := by decide +kernel
theorem dX7_bears_66 : decode cX7_bears 66 = .ok (.iload_n 1, 1) := by decide +kernel
theorem dX7_bears_67 : decode cX7_bears 67 = .ok (.invokevirtual 200, 3) := by decide +kernel
theorem dX7_bears_70 : decode cX7_bears 70 = .ok (.iload_n 1, 1) := by decide +kernel
theorem dX7_bears_71 : decode cX7_bears 71 = .ok (.if_icmp .ne 7, 3) := by decide +kernel
theorem dX7_bears_74 : decode cX7_bears 74 = .ok (.iconst 1, 1) := by decide +kernel
theorem dX7_bears_75 : decode cX7_bears 75 = .ok (.goto 4, 3) := by decide +kernel
theorem dX7_bears_78 : decode cX7_bears 78 = .ok (.iconst 0, 1) := by decide +kernel
theorem dX7_bears_79 : decode cX7_bears 79 = .ok (.istore 4, 2) := by decide +kernel
theorem dX7_bears_81 : decode cX7_bears 81 = .ok (.iload_n 3, 1) := by decide +kernel
theorem dX7_bears_82 : decode cX7_bears 82 = .ok (.iload 4, 2) := by decide +kernel
theorem dX7_bears_84 : decode cX7_bears 84 = .ok (.ifCond .eq 7, 3) := by decide +kernel
theorem dX7_bears_87 : decode cX7_bears 87 = .ok (.iconst 0, 1) := by decide +kernel
theorem dX7_bears_88 : decode cX7_bears 88 = .ok (.goto 4, 3) := by decide +kernel
theorem dX7_bears_91 : decode cX7_bears 91 = .ok (.iconst 1, 1) := by decide +kernel
theorem dX7_bears_92 : decode cX7_bears 92 = .ok (.isub, 1) := by decide +kernel
theorem dX7_bears_93 : decode cX7_bears 93 = .ok (.istore_n 3, 1) := by decide +kernel
theorem dX7_bears_94 : decode cX7_bears 94 = .ok (.goto (-47), 3) := by decide +kernel
theorem dX7_bears_97 : decode cX7_bears 97 = .ok (.aload_n 0, 1) := by decide +kernel
theorem dX7_bears_98 : decode cX7_bears 98 = .ok (.getfield 9, 3) := by decide +kernel
theorem dX7_bears_101 : decode cX7_bears 101 = .ok (.iconst 1, 1) := by decide +kernel
theorem dX7_bears_102 : decode cX7_bears 102 = .ok (.iload_n 2, 1) := by decide +kernel
theorem dX7_bears_103 : decode cX7_bears 103 = .ok (.iastore, 1) := by decide +kernel
theorem dX7_bears_104 : decode cX7_bears 104 = .ok (.iload 4, 2) := by decide +kernel
theorem dX7_bears_106 : decode cX7_bears 106 = .ok (.ifCond .eq 7, 3) := by decide +kernel
theorem dX7_bears_109 : decode cX7_bears 109 = .ok (.iload_n 3, 1) := by decide +kernel
theorem dX7_bears_110 : decode cX7_bears 110 = .ok (.goto 9, 3) := by decide +kernel
theorem dX7_bears_113 : decode cX7_bears 113 = .ok (.aload_n 0, 1) := by decide +kernel
theorem dX7_bears_114 : decode cX7_bears 114 = .ok (.ldc 44, 2) := by decide +kernel
theorem dX7_bears_116 : decode cX7_bears 116 = .ok (.invokevirtual 45, 3) := by decide +kernel
theorem dX7_bears_119 : decode cX7_bears 119 = .ok (.ireturn, 1) := by decide +kernel
theorem dX7_wrongFor_0 : decode cX7_wrongFor 0 = .ok (.aload_n 0, 1) := by decide +kernel
theorem dX7_wrongFor_1 : decode cX7_wrongFor 1 = .ok (.iload_n 1, 1) := by decide +kernel
theorem dX7_wrongFor_2 : decode cX7_wrongFor 2 = .ok (.invokevirtual 114, 3) := by decide +kernel
theorem dX7_wrongFor_5 : decode cX7_wrongFor 5 = .ok (.ifCond .eq 7, 3) := by decide +kernel
theorem dX7_wrongFor_8 : decode cX7_wrongFor 8 = .ok (.iload_n 3, 1) := by decide +kernel
theorem dX7_wrongFor_9 : decode cX7_wrongFor 9 = .ok (.ifCond .ne 8, 3) := by decide +kernel
theorem dX7_wrongFor_12 : decode cX7_wrongFor 12 = .ok (.ldc 43, 2) := by decide +kernel
theorem dX7_wrongFor_14 : decode cX7_wrongFor 14 = .ok (.goto 25, 3) := by decide +kernel
theorem dX7_wrongFor_17 : decode cX7_wrongFor 17 = .ok (.aload_n 0, 1) := by decide +kernel
theorem dX7_wrongFor_18 : decode cX7_wrongFor 18 = .ok (.iload_n 1, 1) := by decide +kernel
theorem dX7_wrongFor_19 : decode cX7_wrongFor 19 = .ok (.invokevirtual 105, 3) := by decide +kernel
theorem dX7_wrongFor_22 : decode cX7_wrongFor 22 = .ok (.ifCond .ne 11, 3) := by decide +kernel
theorem dX7_wrongFor_25 : decode cX7_wrongFor 25 = .ok (.aload_n 0, 1) := by decide +kernel
theorem dX7_wrongFor_26 : decode cX7_wrongFor 26 = .ok (.iload_n 2, 1) := by decide +kernel
theorem dX7_wrongFor_27 : decode cX7_wrongFor 27 = .ok (.invokevirtual 194, 3) := by decide +kernel
theorem dX7_wrongFor_30 : decode cX7_wrongFor 30 = .ok (.ifCond .eq 8, 3) := by decide +kernel
theorem dX7_wrongFor_33 : decode cX7_wrongFor 33 = .ok (.ldc 78, 2) := by decide +kernel
theorem dX7_wrongFor_35 : decode cX7_wrongFor 35 = .ok (.goto 4, 3) := by decide +kernel
theorem dX7_wrongFor_38 : decode cX7_wrongFor 38 = .ok (.iconst 0, 1) := by decide +kernel
theorem dX7_wrongFor_39 : decode cX7_wrongFor 39 = .ok (.ireturn, 1) := by decide +kernel
theorem dX7_capped_0 : decode cX7_capped 0 = .ok (.iload_n 0, 1) := by decide +kernel
theorem dX7_capped_1 : decode cX7_capped 1 = .ok (.bipush 99, 2) := by decide +kernel
theorem dX7_capped_3 : decode cX7_capped 3 = .ok (.if_icmp .le 8, 3) := by decide +kernel
theorem dX7_capped_6 : decode cX7_capped 6 = .ok (.bipush 99, 2) := by decide +kernel
theorem dX7_capped_8 : decode cX7_capped 8 = .ok (.goto 4, 3) := by decide +kernel
theorem dX7_capped_11 : decode cX7_capped 11 = .ok (.iload_n 0, 1) := by decide +kernel
theorem dX7_capped_12 : decode cX7_capped 12 = .ok (.ireturn, 1) := by decide +kernel
theorem dX7_needs_0 : decode cX7_needs 0 = .ok (.aload_n 0, 1) := by decide +kernel
theorem dX7_needs_1 : decode cX7_needs 1 = .ok (.iload_n 1, 1) := by decide +kernel
theorem dX7_needs_2 : decode cX7_needs 2 = .ok (.iload_n 2, 1) := by decide +kernel
theorem dX7_needs_3 : decode cX7_needs 3 = .ok (.iload_n 2, 1) := by decide +kernel
theorem dX7_needs_4 : decode cX7_needs 4 = .ok (.i2l, 1) := by decide +kernel
theorem dX7_needs_5 : decode cX7_needs 5 = .ok (.lconst 1, 1) := by decide +kernel
theorem dX7_needs_6 : decode cX7_needs 6 = .ok (.ldc2_w 172, 3) := by decide +kernel
theorem dX7_needs_9 : decode cX7_needs 9 = .ok (.invokestatic 51, 3) := by decide +kernel
theorem dX7_needs_12 : decode cX7_needs 12 = .ok (.invokevirtual 212, 3) := by decide +kernel
theorem dX7_needs_15 : decode cX7_needs 15 = .ok (.istore_n 3, 1) := by decide +kernel
theorem dX7_needs_16 : decode cX7_needs 16 = .ok (.iload_n 3, 1) := by decide +kernel
theorem dX7_needs_17 : decode cX7_needs 17 = .ok (.ifCond .ge 9, 3) := by decide +kernel
theorem dX7_needs_20 : decode cX7_needs 20 = .ok (.aload_n 0, 1) := by decide +kernel
theorem dX7_needs_21 : decode cX7_needs 21 = .ok (.iload_n 3, 1) := by decide +kernel
theorem dX7_needs_22 : decode cX7_needs 22 = .ok (.invokevirtual 45, 3) := by decide +kernel
theorem dX7_needs_25 : decode cX7_needs 25 = .ok (.ireturn, 1) := by decide +kernel
theorem dX7_needs_26 : decode cX7_needs 26 = .ok (.aload_n 0, 1) := by decide +kernel
theorem dX7_needs_27 : decode cX7_needs 27 = .ok (.iload_n 1, 1) := by decide +kernel
theorem dX7_needs_28 : decode cX7_needs 28 = .ok (.invokevirtual 111, 3) := by decide +kernel
theorem dX7_needs_31 : decode cX7_needs 31 = .ok (.istore 4, 2) := by decide +kernel
theorem dX7_needs_33 : decode cX7_needs 33 = .ok (.iconst (-1), 1) := by decide +kernel
theorem dX7_needs_34 : decode cX7_needs 34 = .ok (.istore 5, 2) := by decide +kernel
theorem dX7_needs_36 : decode cX7_needs 36 = .ok (.iconst 0, 1) := by decide +kernel
theorem dX7_needs_37 : decode cX7_needs 37 = .ok (.istore 6, 2) := by decide +kernel
theorem dX7_needs_39 : decode cX7_needs 39 = .ok (.iload 6, 2) := by decide +kernel
theorem dX7_needs_41 : decode cX7_needs 41 = .ok (.bipush 99, 2) := by decide +kernel
theorem dX7_needs_43 : decode cX7_needs 43 = .ok (.if_icmp .gt 44, 3) := by decide +kernel
theorem dX7_needs_46 : decode cX7_needs 46 = .ok (.iload 5, 2) := by decide +kernel
theorem dX7_needs_48 : decode cX7_needs 48 = .ok (.ifCond .ge 39, 3) := by decide +kernel
theorem dX7_needs_51 : decode cX7_needs 51 = .ok (.aload_n 0, 1) := by decide +kernel
theorem dX7_needs_52 : decode cX7_needs 52 = .ok (.iload_n 1, 1) := by decide +kernel
theorem dX7_needs_53 : decode cX7_needs 53 = .ok (.iload 4, 2) := by decide +kernel
theorem dX7_needs_55 : decode cX7_needs 55 = .ok (.iload 6, 2) := by decide +kernel
theorem dX7_needs_57 : decode cX7_needs 57 = .ok (.iadd, 1) := by decide +kernel
theorem dX7_needs_58 : decode cX7_needs 58 = .ok (.invokestatic 216, 3) := by decide +kernel
theorem dX7_needs_61 : decode cX7_needs 61 = .ok (.invokevirtual 140, 3) := by decide +kernel
theorem dX7_needs_64 : decode cX7_needs 64 = .ok (.aload_n 0, 1) := by decide +kernel
theorem dX7_needs_65 : decode cX7_needs 65 = .ok (.iload_n 2, 1) := by decide +kernel
theorem dX7_needs_66 : decode cX7_needs 66 = .ok (.invokevirtual 200, 3) := by decide +kernel
theorem dX7_needs_69 : decode cX7_needs 69 = .ok (.iload_n 2, 1) := by decide +kernel
theorem dX7_needs_70 : decode cX7_needs 70 = .ok (.if_icmp .ne 8, 3) := by decide +kernel
theorem dX7_needs_73 : decode cX7_needs 73 = .ok (.iload 6, 2) := by decide +kernel
theorem dX7_needs_75 : decode cX7_needs 75 = .ok (.goto 4, 3) := by decide +kernel
theorem dX7_needs_78 : decode cX7_needs 78 = .ok (.iconst (-1), 1) := by decide +kernel
theorem dX7_needs_79 : decode cX7_needs 79 = .ok (.istore 5, 2) := by decide +kernel
theorem dX7_needs_81 : decode cX7_needs 81 = .ok (.iinc 6 1, 3) := by decide +kernel
theorem dX7_needs_84 : decode cX7_needs 84 = .ok (.goto (-45), 3) := by decide +kernel
theorem dX7_needs_87 : decode cX7_needs 87 = .ok (.aload_n 0, 1) := by decide +kernel
theorem dX7_needs_88 : decode cX7_needs 88 = .ok (.iload_n 1, 1) := by decide +kernel
theorem dX7_needs_89 : decode cX7_needs 89 = .ok (.iload 4, 2) := by decide +kernel
theorem dX7_needs_91 : decode cX7_needs 91 = .ok (.invokevirtual 140, 3) := by decide +kernel
theorem dX7_needs_94 : decode cX7_needs 94 = .ok (.aload_n 0, 1) := by decide +kernel
theorem dX7_needs_95 : decode cX7_needs 95 = .ok (.iload 5, 2) := by decide +kernel
theorem dX7_needs_97 : decode cX7_needs 97 = .ok (.invokevirtual 209, 3) := by decide +kernel
theorem dX7_needs_100 : decode cX7_needs 100 = .ok (.ireturn, 1) := by decide +kernel
theorem dX7_mend_0 : decode cX7_mend 0 = .ok (.iload_n 1, 1) := by decide +kernel
theorem dX7_mend_1 : decode cX7_mend 1 = .ok (.i2l, 1) := by decide +kernel
theorem dX7_mend_2 : decode cX7_mend 2 = .ok (.lconst 1, 1) := by decide +kernel
theorem dX7_mend_3 : decode cX7_mend 3 = .ok (.ldc2_w 219, 3) := by decide +kernel
theorem dX7_mend_6 : decode cX7_mend 6 = .ok (.invokestatic 51, 3) := by decide +kernel
theorem dX7_mend_9 : decode cX7_mend 9 = .ok (.ifCond .ne 10, 3) := by decide +kernel
theorem dX7_mend_12 : decode cX7_mend 12 = .ok (.aload_n 0, 1) := by decide +kernel
theorem dX7_mend_13 : decode cX7_mend 13 = .ok (.ldc 43, 2) := by decide +kernel
theorem dX7_mend_15 : decode cX7_mend 15 = .ok (.invokevirtual 45, 3) := by decide +kernel
theorem dX7_mend_18 : decode cX7_mend 18 = .ok (.ireturn, 1) := by decide +kernel
theorem dX7_mend_19 : decode cX7_mend 19 = .ok (.aload_n 0, 1) := by decide +kernel
theorem dX7_mend_20 : decode cX7_mend 20 = .ok (.bipush 96, 2) := by decide +kernel
theorem dX7_mend_22 : decode cX7_mend 22 = .ok (.invokevirtual 194, 3) := by decide +kernel
theorem dX7_mend_25 : decode cX7_mend 25 = .ok (.ifCond .eq 10, 3) := by decide +kernel
theorem dX7_mend_28 : decode cX7_mend 28 = .ok (.aload_n 0, 1) := by decide +kernel
theorem dX7_mend_29 : decode cX7_mend 29 = .ok (.ldc 78, 2) := by decide +kernel
theorem dX7_mend_31 : decode cX7_mend 31 = .ok (.invokevirtual 45, 3) := by decide +kernel
theorem dX7_mend_34 : decode cX7_mend 34 = .ok (.ireturn, 1) := by decide +kernel
theorem dX7_mend_35 : decode cX7_mend 35 = .ok (.iconst (-1), 1) := by decide +kernel
theorem dX7_mend_36 : decode cX7_mend 36 = .ok (.istore_n 2, 1) := by decide +kernel
theorem dX7_mend_37 : decode cX7_mend 37 = .ok (.iconst 0, 1) := by decide +kernel
theorem dX7_mend_38 : decode cX7_mend 38 = .ok (.istore_n 3, 1) := by decide +kernel
theorem dX7_mend_39 : decode cX7_mend 39 = .ok (.iconst 0, 1) := by decide +kernel
theorem dX7_mend_40 : decode cX7_mend 40 = .ok (.istore 4, 2) := by decide +kernel
theorem dX7_mend_42 : decode cX7_mend 42 = .ok (.iload 4, 2) := by decide +kernel
theorem dX7_mend_44 : decode cX7_mend 44 = .ok (.aload_n 0, 1) := by decide +kernel
theorem dX7_mend_45 : decode cX7_mend 45 = .ok (.getfield 9, 3) := by decide +kernel
theorem dX7_mend_48 : decode cX7_mend 48 = .ok (.iconst 5, 1) := by decide +kernel
theorem dX7_mend_49 : decode cX7_mend 49 = .ok (.iaload, 1) := by decide +kernel
theorem dX7_mend_50 : decode cX7_mend 50 = .ok (.if_icmp .ge 77, 3) := by decide +kernel
theorem dX7_mend_53 : decode cX7_mend 53 = .ok (.aload_n 0, 1) := by decide +kernel
theorem dX7_mend_54 : decode cX7_mend 54 = .ok (.iload 4, 2) := by decide +kernel
theorem dX7_mend_56 : decode cX7_mend 56 = .ok (.invokevirtual 105, 3) := by decide +kernel
theorem dX7_mend_59 : decode cX7_mend 59 = .ok (.ifCond .eq 6, 3) := by decide +kernel
theorem dX7_mend_62 : decode cX7_mend 62 = .ok (.goto 59, 3) := by decide +kernel
theorem dX7_mend_65 : decode cX7_mend 65 = .ok (.aload_n 0, 1) := by decide +kernel
theorem dX7_mend_66 : decode cX7_mend 66 = .ok (.iload 4, 2) := by decide +kernel
theorem dX7_mend_68 : decode cX7_mend 68 = .ok (.invokevirtual 111, 3) := by decide +kernel
theorem dX7_mend_71 : decode cX7_mend 71 = .ok (.istore 5, 2) := by decide +kernel
theorem dX7_mend_73 : decode cX7_mend 73 = .ok (.aload_n 0, 1) := by decide +kernel
theorem dX7_mend_74 : decode cX7_mend 74 = .ok (.iload 4, 2) := by decide +kernel
theorem dX7_mend_76 : decode cX7_mend 76 = .ok (.iload 5, 2) := by decide +kernel
theorem dX7_mend_78 : decode cX7_mend 78 = .ok (.iload_n 1, 1) := by decide +kernel
theorem dX7_mend_79 : decode cX7_mend 79 = .ok (.iadd, 1) := by decide +kernel
theorem dX7_mend_80 : decode cX7_mend 80 = .ok (.invokestatic 216, 3) := by decide +kernel
theorem dX7_mend_83 : decode cX7_mend 83 = .ok (.invokevirtual 140, 3) := by decide +kernel
theorem dX7_mend_86 : decode cX7_mend 86 = .ok (.aload_n 0, 1) := by decide +kernel
theorem dX7_mend_87 : decode cX7_mend 87 = .ok (.bipush 96, 2) := by decide +kernel
theorem dX7_mend_89 : decode cX7_mend 89 = .ok (.invokevirtual 200, 3) := by decide +kernel
theorem dX7_mend_92 : decode cX7_mend 92 = .ok (.istore 6, 2) := by decide +kernel
theorem dX7_mend_94 : decode cX7_mend 94 = .ok (.aload_n 0, 1) := by decide +kernel
theorem dX7_mend_95 : decode cX7_mend 95 = .ok (.iload 4, 2) := by decide +kernel
theorem dX7_mend_97 : decode cX7_mend 97 = .ok (.iload 5, 2) := by decide +kernel
theorem dX7_mend_99 : decode cX7_mend 99 = .ok (.invokevirtual 140, 3) := by decide +kernel
theorem dX7_mend_102 : decode cX7_mend 102 = .ok (.iload_n 2, 1) := by decide +kernel
theorem dX7_mend_103 : decode cX7_mend 103 = .ok (.ifCond .lt 12, 3) := by decide +kernel
theorem dX7_mend_106 : decode cX7_mend 106 = .ok (.iload 6, 2) := by decide +kernel
theorem dX7_mend_108 : decode cX7_mend 108 = .ok (.iload_n 3, 1) := by decide +kernel
theorem dX7_mend_109 : decode cX7_mend 109 = .ok (.if_icmp .gt 6, 3) := by decide +kernel
theorem dX7_mend_112 : decode cX7_mend 112 = .ok (.goto 9, 3) := by decide +kernel
theorem dX7_mend_115 : decode cX7_mend 115 = .ok (.iload 4, 2) := by decide +kernel
theorem dX7_mend_117 : decode cX7_mend 117 = .ok (.istore_n 2, 1) := by decide +kernel
theorem dX7_mend_118 : decode cX7_mend 118 = .ok (.iload 6, 2) := by decide +kernel
theorem dX7_mend_120 : decode cX7_mend 120 = .ok (.istore_n 3, 1) := by decide +kernel
theorem dX7_mend_121 : decode cX7_mend 121 = .ok (.iinc 4 1, 3) := by decide +kernel
theorem dX7_mend_124 : decode cX7_mend 124 = .ok (.goto (-82), 3) := by decide +kernel
theorem dX7_mend_127 : decode cX7_mend 127 = .ok (.aload_n 0, 1) := by decide +kernel
theorem dX7_mend_128 : decode cX7_mend 128 = .ok (.iload_n 2, 1) := by decide +kernel
theorem dX7_mend_129 : decode cX7_mend 129 = .ok (.invokevirtual 209, 3) := by decide +kernel
theorem dX7_mend_132 : decode cX7_mend 132 = .ok (.ireturn, 1) := by decide +kernel
theorem dX7_whose_0 : decode cX7_whose 0 = .ok (.aload_n 0, 1) := by decide +kernel
theorem dX7_whose_1 : decode cX7_whose 1 = .ok (.iload_n 1, 1) := by decide +kernel
theorem dX7_whose_2 : decode cX7_whose 2 = .ok (.bipush 96, 2) := by decide +kernel
theorem dX7_whose_4 : decode cX7_whose 4 = .ok (.iconst 1, 1) := by decide +kernel
theorem dX7_whose_5 : decode cX7_whose 5 = .ok (.invokevirtual 212, 3) := by decide +kernel
theorem dX7_whose_8 : decode cX7_whose 8 = .ok (.istore_n 2, 1) := by decide +kernel
theorem dX7_whose_9 : decode cX7_whose 9 = .ok (.iload_n 2, 1) := by decide +kernel
theorem dX7_whose_10 : decode cX7_whose 10 = .ok (.ifCond .ge 9, 3) := by decide +kernel
theorem dX7_whose_13 : decode cX7_whose 13 = .ok (.aload_n 0, 1) := by decide +kernel
theorem dX7_whose_14 : decode cX7_whose 14 = .ok (.iload_n 2, 1) := by decide +kernel
theorem dX7_whose_15 : decode cX7_whose 15 = .ok (.invokevirtual 45, 3) := by decide +kernel
theorem dX7_whose_18 : decode cX7_whose 18 = .ok (.ireturn, 1) := by decide +kernel
theorem dX7_whose_19 : decode cX7_whose 19 = .ok (.iconst (-1), 1) := by decide +kernel
theorem dX7_whose_20 : decode cX7_whose 20 = .ok (.istore_n 3, 1) := by decide +kernel
theorem dX7_whose_21 : decode cX7_whose 21 = .ok (.iconst 0, 1) := by decide +kernel
theorem dX7_whose_22 : decode cX7_whose 22 = .ok (.istore 4, 2) := by decide +kernel
theorem dX7_whose_24 : decode cX7_whose 24 = .ok (.iconst 0, 1) := by decide +kernel
theorem dX7_whose_25 : decode cX7_whose 25 = .ok (.istore 5, 2) := by decide +kernel
theorem dX7_whose_27 : decode cX7_whose 27 = .ok (.iload 5, 2) := by decide +kernel
theorem dX7_whose_29 : decode cX7_whose 29 = .ok (.bipush 6, 2) := by decide +kernel
theorem dX7_whose_31 : decode cX7_whose 31 = .ok (.if_icmp .ge 81, 3) := by decide +kernel
theorem dX7_whose_34 : decode cX7_whose 34 = .ok (.aload_n 0, 1) := by decide +kernel
theorem dX7_whose_35 : decode cX7_whose 35 = .ok (.iload 5, 2) := by decide +kernel
theorem dX7_whose_37 : decode cX7_whose 37 = .ok (.invokevirtual 131, 3) := by decide +kernel
theorem dX7_whose_40 : decode cX7_whose 40 = .ok (.ifCond .ne 6, 3) := by decide +kernel
theorem dX7_whose_43 : decode cX7_whose 43 = .ok (.goto 63, 3) := by decide +kernel
theorem dX7_whose_46 : decode cX7_whose 46 = .ok (.aload_n 0, 1) := by decide +kernel
theorem dX7_whose_47 : decode cX7_whose 47 = .ok (.getfield 9, 3) := by decide +kernel
theorem dX7_whose_50 : decode cX7_whose 50 = .ok (.bipush 6, 2) := by decide +kernel
theorem dX7_whose_52 : decode cX7_whose 52 = .ok (.iconst 3, 1) := by decide +kernel
theorem dX7_whose_53 : decode cX7_whose 53 = .ok (.iload 5, 2) := by decide +kernel
theorem dX7_whose_55 : decode cX7_whose 55 = .ok (.imul, 1) := by decide +kernel
theorem dX7_whose_56 : decode cX7_whose 56 = .ok (.iadd, 1) := by decide +kernel
theorem dX7_whose_57 : decode cX7_whose 57 = .ok (.iconst 2, 1) := by decide +kernel
theorem dX7_whose_58 : decode cX7_whose 58 = .ok (.iadd, 1) := by decide +kernel
theorem dX7_whose_59 : decode cX7_whose 59 = .ok (.iconst 0, 1) := by decide +kernel
theorem dX7_whose_60 : decode cX7_whose 60 = .ok (.iastore, 1) := by decide +kernel
theorem dX7_whose_61 : decode cX7_whose 61 = .ok (.aload_n 0, 1) := by decide +kernel
theorem dX7_whose_62 : decode cX7_whose 62 = .ok (.iload_n 1, 1) := by decide +kernel
theorem dX7_whose_63 : decode cX7_whose 63 = .ok (.bipush 96, 2) := by decide +kernel
theorem dX7_whose_65 : decode cX7_whose 65 = .ok (.invokevirtual 197, 3) := by decide +kernel
theorem dX7_whose_68 : decode cX7_whose 68 = .ok (.istore 6, 2) := by decide +kernel
theorem dX7_whose_70 : decode cX7_whose 70 = .ok (.aload_n 0, 1) := by decide +kernel
theorem dX7_whose_71 : decode cX7_whose 71 = .ok (.getfield 9, 3) := by decide +kernel
theorem dX7_whose_74 : decode cX7_whose 74 = .ok (.bipush 6, 2) := by decide +kernel
theorem dX7_whose_76 : decode cX7_whose 76 = .ok (.iconst 3, 1) := by decide +kernel
theorem dX7_whose_77 : decode cX7_whose 77 = .ok (.iload 5, 2) := by decide +kernel
theorem dX7_whose_79 : decode cX7_whose 79 = .ok (.imul, 1) := by decide +kernel
theorem dX7_whose_80 : decode cX7_whose 80 = .ok (.iadd, 1) := by decide +kernel
theorem dX7_whose_81 : decode cX7_whose 81 = .ok (.iconst 2, 1) := by decide +kernel
theorem dX7_whose_82 : decode cX7_whose 82 = .ok (.iadd, 1) := by decide +kernel
theorem dX7_whose_83 : decode cX7_whose 83 = .ok (.iconst 1, 1) := by decide +kernel
theorem dX7_whose_84 : decode cX7_whose 84 = .ok (.iastore, 1) := by decide +kernel
theorem dX7_whose_85 : decode cX7_whose 85 = .ok (.iload_n 3, 1) := by decide +kernel
theorem dX7_whose_86 : decode cX7_whose 86 = .ok (.ifCond .lt 13, 3) := by decide +kernel
theorem dX7_whose_89 : decode cX7_whose 89 = .ok (.iload 6, 2) := by decide +kernel
theorem dX7_whose_91 : decode cX7_whose 91 = .ok (.iload 4, 2) := by decide +kernel
theorem dX7_whose_93 : decode cX7_whose 93 = .ok (.if_icmp .gt 6, 3) := by decide +kernel
theorem dX7_whose_96 : decode cX7_whose 96 = .ok (.goto 10, 3) := by decide +kernel
theorem dX7_whose_99 : decode cX7_whose 99 = .ok (.iload 5, 2) := by decide +kernel
theorem dX7_whose_101 : decode cX7_whose 101 = .ok (.istore_n 3, 1) := by decide +kernel
theorem dX7_whose_102 : decode cX7_whose 102 = .ok (.iload 6, 2) := by decide +kernel
theorem dX7_whose_104 : decode cX7_whose 104 = .ok (.istore 4, 2) := by decide +kernel
theorem dX7_whose_106 : decode cX7_whose 106 = .ok (.iinc 5 1, 3) := by decide +kernel
theorem dX7_whose_109 : decode cX7_whose 109 = .ok (.goto (-82), 3) := by decide +kernel
theorem dX7_whose_112 : decode cX7_whose 112 = .ok (.aload_n 0, 1) := by decide +kernel
theorem dX7_whose_113 : decode cX7_whose 113 = .ok (.iload_n 3, 1) := by decide +kernel
theorem dX7_whose_114 : decode cX7_whose 114 = .ok (.invokevirtual 209, 3) := by decide +kernel
theorem dX7_whose_117 : decode cX7_whose 117 = .ok (.ireturn, 1) := by decide +kernel
theorem dX7_grainsBehind_0 : decode cX7_grainsBehind 0 = .ok (.aload_n 0, 1) := by decide +kernel
theorem dX7_grainsBehind_1 : decode cX7_grainsBehind 1 = .ok (.getfield 9, 3) := by decide +kernel
theorem dX7_grainsBehind_4 : decode cX7_grainsBehind 4 = .ok (.aload_n 0, 1) := by decide +kernel
theorem dX7_grainsBehind_5 : decode cX7_grainsBehind 5 = .ok (.getfield 16, 3) := by decide +kernel
theorem dX7_grainsBehind_8 : decode cX7_grainsBehind 8 = .ok (.invokestatic 187, 3) := by decide +kernel
theorem dX7_grainsBehind_11 : decode cX7_grainsBehind 11 = .ok (.iconst 0, 1) := by decide +kernel
theorem dX7_grainsBehind_12 : decode cX7_grainsBehind 12 = .ok (.istore_n 3, 1) := by decide +kernel
theorem dX7_grainsBehind_13 : decode cX7_grainsBehind 13 = .ok (.iload_n 3, 1) := by decide +kernel
theorem dX7_grainsBehind_14 : decode cX7_grainsBehind 14 = .ok (.iload_n 2, 1) := by decide +kernel
theorem dX7_grainsBehind_15 : decode cX7_grainsBehind 15 = .ok (.if_icmp .ge 13, 3) := by decide +kernel
theorem dX7_grainsBehind_18 : decode cX7_grainsBehind 18 = .ok (.aload_n 0, 1) := by decide +kernel
theorem dX7_grainsBehind_19 : decode cX7_grainsBehind 19 = .ok (.invokevirtual 177, 3) := by decide +kernel
theorem dX7_grainsBehind_22 : decode cX7_grainsBehind 22 = .ok (.iinc 3 1, 3) := by decide +kernel
theorem dX7_grainsBehind_25 : decode cX7_grainsBehind 25 = .ok (.goto (-12), 3) := by decide +kernel
theorem dX7_grainsBehind_28 : decode cX7_grainsBehind 28 = .ok (.aload_n 0, 1) := by decide +kernel
theorem dX7_grainsBehind_29 : decode cX7_grainsBehind 29 = .ok (.iload_n 1, 1) := by decide +kernel
theorem dX7_grainsBehind_30 : decode cX7_grainsBehind 30 = .ok (.invokevirtual 111, 3) := by decide +kernel
theorem dX7_grainsBehind_33 : decode cX7_grainsBehind 33 = .ok (.istore_n 3, 1) := by decide +kernel
theorem dX7_grainsBehind_34 : decode cX7_grainsBehind 34 = .ok (.aload_n 0, 1) := by decide +kernel
theorem dX7_grainsBehind_35 : decode cX7_grainsBehind 35 = .ok (.getfield 16, 3) := by decide +kernel
theorem dX7_grainsBehind_38 : decode cX7_grainsBehind 38 = .ok (.aload_n 0, 1) := by decide +kernel
theorem dX7_grainsBehind_39 : decode cX7_grainsBehind 39 = .ok (.getfield 9, 3) := by decide +kernel
theorem dX7_grainsBehind_42 : decode cX7_grainsBehind 42 = .ok (.invokestatic 187, 3) := by decide +kernel
theorem dX7_grainsBehind_45 : decode cX7_grainsBehind 45 = .ok (.iload_n 3, 1) := by decide +kernel
theorem dX7_grainsBehind_46 : decode cX7_grainsBehind 46 = .ok (.ireturn, 1) := by decide +kernel
theorem dX7_drawing_0 : decode cX7_drawing 0 = .ok (.aload_n 0, 1) := by decide +kernel
theorem dX7_drawing_1 : decode cX7_drawing 1 = .ok (.iload_n 1, 1) := by decide +kernel
theorem dX7_drawing_2 : decode cX7_drawing 2 = .ok (.iload_n 2, 1) := by decide +kernel
theorem dX7_drawing_3 : decode cX7_drawing 3 = .ok (.iload_n 2, 1) := by decide +kernel
theorem dX7_drawing_4 : decode cX7_drawing 4 = .ok (.i2l, 1) := by decide +kernel
theorem dX7_drawing_5 : decode cX7_drawing 5 = .ok (.lconst 1, 1) := by decide +kernel
theorem dX7_drawing_6 : decode cX7_drawing 6 = .ok (.ldc2_w 221, 3) := by decide +kernel
theorem dX7_drawing_9 : decode cX7_drawing 9 = .ok (.invokestatic 51, 3) := by decide +kernel
theorem dX7_drawing_12 : decode cX7_drawing 12 = .ok (.ifCond .eq 19, 3) := by decide +kernel
theorem dX7_drawing_15 : decode cX7_drawing 15 = .ok (.iload_n 3, 1) := by decide +kernel
theorem dX7_drawing_16 : decode cX7_drawing 16 = .ok (.i2l, 1) := by decide +kernel
theorem dX7_drawing_17 : decode cX7_drawing 17 = .ok (.lconst 0, 1) := by decide +kernel
theorem dX7_drawing_18 : decode cX7_drawing 18 = .ok (.ldc2_w 59, 3) := by decide +kernel
theorem dX7_drawing_21 : decode cX7_drawing 21 = .ok (.invokestatic 51, 3) := by decide +kernel
theorem dX7_drawing_24 : decode cX7_drawing 24 = .ok (.ifCond .eq 7, 3) := by decide +kernel
theorem dX7_drawing_27 : decode cX7_drawing 27 = .ok (.iconst 1, 1) := by decide +kernel
theorem dX7_drawing_28 : decode cX7_drawing 28 = .ok (.goto 4, 3) := by decide +kernel
theorem dX7_drawing_31 : decode cX7_drawing 31 = .ok (.iconst 0, 1) := by decide +kernel
theorem dX7_drawing_32 : decode cX7_drawing 32 = .ok (.invokevirtual 212, 3) := by decide +kernel
theorem dX7_drawing_35 : decode cX7_drawing 35 = .ok (.istore 4, 2) := by decide +kernel
theorem dX7_drawing_37 : decode cX7_drawing 37 = .ok (.iload 4, 2) := by decide +kernel
theorem dX7_drawing_39 : decode cX7_drawing 39 = .ok (.ifCond .ge 10, 3) := by decide +kernel
theorem dX7_drawing_42 : decode cX7_drawing 42 = .ok (.aload_n 0, 1) := by decide +kernel
theorem dX7_drawing_43 : decode cX7_drawing 43 = .ok (.iload 4, 2) := by decide +kernel
theorem dX7_drawing_45 : decode cX7_drawing 45 = .ok (.invokevirtual 45, 3) := by decide +kernel
theorem dX7_drawing_48 : decode cX7_drawing 48 = .ok (.ireturn, 1) := by decide +kernel
theorem dX7_drawing_49 : decode cX7_drawing 49 = .ok (.aload_n 0, 1) := by decide +kernel
theorem dX7_drawing_50 : decode cX7_drawing 50 = .ok (.getfield 9, 3) := by decide +kernel
theorem dX7_drawing_53 : decode cX7_drawing 53 = .ok (.iconst 1, 1) := by decide +kernel
theorem dX7_drawing_54 : decode cX7_drawing 54 = .ok (.iaload, 1) := by decide +kernel
theorem dX7_drawing_55 : decode cX7_drawing 55 = .ok (.istore 5, 2) := by decide +kernel
theorem dX7_drawing_57 : decode cX7_drawing 57 = .ok (.iconst 0, 1) := by decide +kernel
theorem dX7_drawing_58 : decode cX7_drawing 58 = .ok (.istore 6, 2) := by decide +kernel
theorem dX7_drawing_60 : decode cX7_drawing 60 = .ok (.iconst 0, 1) := by decide +kernel
theorem dX7_drawing_61 : decode cX7_drawing 61 = .ok (.istore 7, 2) := by decide +kernel
theorem dX7_drawing_63 : decode cX7_drawing 63 = .ok (.bipush 20, 2) := by decide +kernel
theorem dX7_drawing_65 : decode cX7_drawing 65 = .ok (.istore 8, 2) := by decide +kernel
theorem dX7_drawing_67 : decode cX7_drawing 67 = .ok (.iload 8, 2) := by decide +kernel
theorem dX7_drawing_69 : decode cX7_drawing 69 = .ok (.bipush (-20), 2) := by decide +kernel
theorem dX7_drawing_71 : decode cX7_drawing 71 = .ok (.if_icmp .lt 37, 3) := by decide +kernel
theorem dX7_drawing_74 : decode cX7_drawing 74 = .ok (.aload_n 0, 1) := by decide +kernel
theorem dX7_drawing_75 : decode cX7_drawing 75 = .ok (.getfield 9, 3) := by decide +kernel
theorem dX7_drawing_78 : decode cX7_drawing 78 = .ok (.iconst 1, 1) := by decide +kernel
theorem dX7_drawing_79 : decode cX7_drawing 79 = .ok (.iload 8, 2) := by decide +kernel
theorem dX7_drawing_81 : decode cX7_drawing 81 = .ok (.iastore, 1) := by decide +kernel
theorem dX7_drawing_82 : decode cX7_drawing 82 = .ok (.aload_n 0, 1) := by decide +kernel
theorem dX7_drawing_83 : decode cX7_drawing 83 = .ok (.iload_n 1, 1) := by decide +kernel
theorem dX7_drawing_84 : decode cX7_drawing 84 = .ok (.iload_n 2, 1) := by decide +kernel
theorem dX7_drawing_85 : decode cX7_drawing 85 = .ok (.invokevirtual 223, 3) := by decide +kernel
theorem dX7_drawing_88 : decode cX7_drawing 88 = .ok (.iload_n 3, 1) := by decide +kernel
theorem dX7_drawing_89 : decode cX7_drawing 89 = .ok (.if_icmp .eq 6, 3) := by decide +kernel
theorem dX7_drawing_92 : decode cX7_drawing 92 = .ok (.goto 10, 3) := by decide +kernel
theorem dX7_drawing_95 : decode cX7_drawing 95 = .ok (.iinc 6 1, 3) := by decide +kernel
theorem dX7_drawing_98 : decode cX7_drawing 98 = .ok (.iload 8, 2) := by decide +kernel
theorem dX7_drawing_100 : decode cX7_drawing 100 = .ok (.istore 7, 2) := by decide +kernel
theorem dX7_drawing_102 : decode cX7_drawing 102 = .ok (.iinc 8 (-1), 3) := by decide +kernel
theorem dX7_drawing_105 : decode cX7_drawing 105 = .ok (.goto (-38), 3) := by decide +kernel
theorem dX7_drawing_108 : decode cX7_drawing 108 = .ok (.aload_n 0, 1) := by decide +kernel
theorem dX7_drawing_109 : decode cX7_drawing 109 = .ok (.getfield 9, 3) := by decide +kernel
theorem dX7_drawing_112 : decode cX7_drawing 112 = .ok (.iconst 1, 1) := by decide +kernel
theorem dX7_drawing_113 : decode cX7_drawing 113 = .ok (.iload 5, 2) := by decide +kernel
theorem dX7_drawing_115 : decode cX7_drawing 115 = .ok (.iastore, 1) := by decide +kernel
theorem dX7_drawing_116 : decode cX7_drawing 116 = .ok (.iload 6, 2) := by decide +kernel
theorem dX7_drawing_118 : decode cX7_drawing 118 = .ok (.ifCond .ne 12, 3) := by decide +kernel
theorem dX7_drawing_121 : decode cX7_drawing 121 = .ok (.aload_n 0, 1) := by decide +kernel
theorem dX7_drawing_122 : decode cX7_drawing 122 = .ok (.ldc 44, 2) := by decide +kernel
theorem dX7_drawing_124 : decode cX7_drawing 124 = .ok (.invokevirtual 45, 3) := by decide +kernel
theorem dX7_drawing_127 : decode cX7_drawing 127 = .ok (.goto 14, 3) := by decide +kernel
theorem dX7_drawing_130 : decode cX7_drawing 130 = .ok (.bipush 100, 2) := by decide +kernel
theorem dX7_drawing_132 : decode cX7_drawing 132 = .ok (.iload 6, 2) := by decide +kernel
theorem dX7_drawing_134 : decode cX7_drawing 134 = .ok (.imul, 1) := by decide +kernel
theorem dX7_drawing_135 : decode cX7_drawing 135 = .ok (.bipush 20, 2) := by decide +kernel
theorem dX7_drawing_137 : decode cX7_drawing 137 = .ok (.iadd, 1) := by decide +kernel
theorem dX7_drawing_138 : decode cX7_drawing 138 = .ok (.iload 7, 2) := by decide +kernel
theorem dX7_drawing_140 : decode cX7_drawing 140 = .ok (.iadd, 1) := by decide +kernel
theorem dX7_drawing_141 : decode cX7_drawing 141 = .ok (.ireturn, 1) := by decide +kernel
theorem dX7_there_0 : decode cX7_there 0 = .ok (.aload_n 0, 1) := by decide +kernel
theorem dX7_there_1 : decode cX7_there 1 = .ok (.invokevirtual 174, 3) := by decide +kernel
theorem dX7_there_4 : decode cX7_there 4 = .ok (.iconst (-1), 1) := by decide +kernel
theorem dX7_there_5 : decode cX7_there 5 = .ok (.ixor, 1) := by decide +kernel
theorem dX7_there_6 : decode cX7_there 6 = .ok (.iconst 1, 1) := by decide +kernel
theorem dX7_there_7 : decode cX7_there 7 = .ok (.aload_n 0, 1) := by decide +kernel
theorem dX7_there_8 : decode cX7_there 8 = .ok (.getfield 9, 3) := by decide +kernel
theorem dX7_there_11 : decode cX7_there 11 = .ok (.iconst 5, 1) := by decide +kernel
theorem dX7_there_12 : decode cX7_there 12 = .ok (.iaload, 1) := by decide +kernel
theorem dX7_there_13 : decode cX7_there 13 = .ok (.ishl, 1) := by decide +kernel
theorem dX7_there_14 : decode cX7_there 14 = .ok (.iconst 1, 1) := by decide +kernel
theorem dX7_there_15 : decode cX7_there 15 = .ok (.isub, 1) := by decide +kernel
theorem dX7_there_16 : decode cX7_there 16 = .ok (.iand, 1) := by decide +kernel
theorem dX7_there_17 : decode cX7_there 17 = .ok (.ireturn, 1) := by decide +kernel
theorem dX7_order_0 : decode cX7_order 0 = .ok (.iload_n 1, 1) := by decide +kernel
theorem dX7_order_1 : decode cX7_order 1 = .ok (.i2l, 1) := by decide +kernel
theorem dX7_order_2 : decode cX7_order 2 = .ok (.lconst 0, 1) := by decide +kernel
theorem dX7_order_3 : decode cX7_order 3 = .ok (.ldc2_w 226, 3) := by decide +kernel
theorem dX7_order_6 : decode cX7_order 6 = .ok (.invokestatic 51, 3) := by decide +kernel
theorem dX7_order_9 : decode cX7_order 9 = .ok (.ifCond .ne 10, 3) := by decide +kernel
theorem dX7_order_12 : decode cX7_order 12 = .ok (.aload_n 0, 1) := by decide +kernel
theorem dX7_order_13 : decode cX7_order 13 = .ok (.ldc 43, 2) := by decide +kernel
theorem dX7_order_15 : decode cX7_order 15 = .ok (.invokevirtual 45, 3) := by decide +kernel
theorem dX7_order_18 : decode cX7_order 18 = .ok (.ireturn, 1) := by decide +kernel
theorem dX7_order_19 : decode cX7_order 19 = .ok (.iconst 0, 1) := by decide +kernel
theorem dX7_order_20 : decode cX7_order 20 = .ok (.istore_n 2, 1) := by decide +kernel
theorem dX7_order_21 : decode cX7_order 21 = .ok (.iconst (-1), 1) := by decide +kernel
theorem dX7_order_22 : decode cX7_order 22 = .ok (.istore_n 3, 1) := by decide +kernel
theorem dX7_order_23 : decode cX7_order 23 = .ok (.iconst 0, 1) := by decide +kernel
theorem dX7_order_24 : decode cX7_order 24 = .ok (.istore 4, 2) := by decide +kernel
theorem dX7_order_26 : decode cX7_order 26 = .ok (.iload 4, 2) := by decide +kernel
theorem dX7_order_28 : decode cX7_order 28 = .ok (.aload_n 0, 1) := by decide +kernel
theorem dX7_order_29 : decode cX7_order 29 = .ok (.getfield 9, 3) := by decide +kernel
theorem dX7_order_32 : decode cX7_order 32 = .ok (.iconst 5, 1) := by decide +kernel
theorem dX7_order_33 : decode cX7_order 33 = .ok (.iaload, 1) := by decide +kernel
theorem dX7_order_34 : decode cX7_order 34 = .ok (.if_icmp .ge 96, 3) := by decide +kernel
theorem dX7_order_37 : decode cX7_order 37 = .ok (.iconst (-1), 1) := by decide +kernel
theorem dX7_order_38 : decode cX7_order 38 = .ok (.istore 5, 2) := by decide +kernel
theorem dX7_order_40 : decode cX7_order 40 = .ok (.aload_n 0, 1) := by decide +kernel
theorem dX7_order_41 : decode cX7_order 41 = .ok (.getfield 9, 3) := by decide +kernel
theorem dX7_order_44 : decode cX7_order 44 = .ok (.iconst 5, 1) := by decide +kernel
theorem dX7_order_45 : decode cX7_order 45 = .ok (.iaload, 1) := by decide +kernel
theorem dX7_order_46 : decode cX7_order 46 = .ok (.iconst 1, 1) := by decide +kernel
theorem dX7_order_47 : decode cX7_order 47 = .ok (.isub, 1) := by decide +kernel
theorem dX7_order_48 : decode cX7_order 48 = .ok (.istore 6, 2) := by decide +kernel
theorem dX7_order_50 : decode cX7_order 50 = .ok (.iload 6, 2) := by decide +kernel
theorem dX7_order_52 : decode cX7_order 52 = .ok (.ifCond .lt 44, 3) := by decide +kernel
theorem dX7_order_55 : decode cX7_order 55 = .ok (.aload_n 0, 1) := by decide +kernel
theorem dX7_order_56 : decode cX7_order 56 = .ok (.invokevirtual 228, 3) := by decide +kernel
theorem dX7_order_59 : decode cX7_order 59 = .ok (.iload_n 2, 1) := by decide +kernel
theorem dX7_order_60 : decode cX7_order 60 = .ok (.iconst (-1), 1) := by decide +kernel
theorem dX7_order_61 : decode cX7_order 61 = .ok (.ixor, 1) := by decide +kernel
theorem dX7_order_62 : decode cX7_order 62 = .ok (.iand, 1) := by decide +kernel
theorem dX7_order_63 : decode cX7_order 63 = .ok (.iload 6, 2) := by decide +kernel
theorem dX7_order_65 : decode cX7_order 65 = .ok (.invokestatic 83, 3) := by decide +kernel
theorem dX7_order_68 : decode cX7_order 68 = .ok (.ifCond .eq 18, 3) := by decide +kernel
theorem dX7_order_71 : decode cX7_order 71 = .ok (.aload_n 0, 1) := by decide +kernel
theorem dX7_order_72 : decode cX7_order 72 = .ok (.iload 6, 2) := by decide +kernel
theorem dX7_order_74 : decode cX7_order 74 = .ok (.iload_n 2, 1) := by decide +kernel
theorem dX7_order_75 : decode cX7_order 75 = .ok (.invokevirtual 108, 3) := by decide +kernel
theorem dX7_order_78 : decode cX7_order 78 = .ok (.ifCond .eq 8, 3) := by decide +kernel
theorem dX7_order_81 : decode cX7_order 81 = .ok (.iload 6, 2) := by decide +kernel
theorem dX7_order_83 : decode cX7_order 83 = .ok (.goto 5, 3) := by decide +kernel
theorem dX7_order_86 : decode cX7_order 86 = .ok (.iload 5, 2) := by decide +kernel
theorem dX7_order_88 : decode cX7_order 88 = .ok (.istore 5, 2) := by decide +kernel
theorem dX7_order_90 : decode cX7_order 90 = .ok (.iinc 6 (-1), 3) := by decide +kernel
theorem dX7_order_93 : decode cX7_order 93 = .ok (.goto (-43), 3) := by decide +kernel
theorem dX7_order_96 : decode cX7_order 96 = .ok (.iload 5, 2) := by decide +kernel
theorem dX7_order_98 : decode cX7_order 98 = .ok (.ifCond .ge 6, 3) := by decide +kernel
theorem dX7_order_101 : decode cX7_order 101 = .ok (.goto 29, 3) := by decide +kernel
theorem dX7_order_104 : decode cX7_order 104 = .ok (.iload_n 2, 1) := by decide +kernel
theorem dX7_order_105 : decode cX7_order 105 = .ok (.iconst 1, 1) := by decide +kernel
theorem dX7_order_106 : decode cX7_order 106 = .ok (.iload 5, 2) := by decide +kernel
theorem dX7_order_108 : decode cX7_order 108 = .ok (.ishl, 1) := by decide +kernel
theorem dX7_order_109 : decode cX7_order 109 = .ok (.ior, 1) := by decide +kernel
theorem dX7_order_110 : decode cX7_order 110 = .ok (.istore_n 2, 1) := by decide +kernel
theorem dX7_order_111 : decode cX7_order 111 = .ok (.iload 4, 2) := by decide +kernel
theorem dX7_order_113 : decode cX7_order 113 = .ok (.iload_n 1, 1) := by decide +kernel
theorem dX7_order_114 : decode cX7_order 114 = .ok (.if_icmp .ne 8, 3) := by decide +kernel
theorem dX7_order_117 : decode cX7_order 117 = .ok (.iload 5, 2) := by decide +kernel
theorem dX7_order_119 : decode cX7_order 119 = .ok (.goto 4, 3) := by decide +kernel
theorem dX7_order_122 : decode cX7_order 122 = .ok (.iload_n 3, 1) := by decide +kernel
theorem dX7_order_123 : decode cX7_order 123 = .ok (.istore_n 3, 1) := by decide +kernel
theorem dX7_order_124 : decode cX7_order 124 = .ok (.iinc 4 1, 3) := by decide +kernel
theorem dX7_order_127 : decode cX7_order 127 = .ok (.goto (-101), 3) := by decide +kernel
theorem dX7_order_130 : decode cX7_order 130 = .ok (.iload_n 2, 1) := by decide +kernel
theorem dX7_order_131 : decode cX7_order 131 = .ok (.aload_n 0, 1) := by decide +kernel
theorem dX7_order_132 : decode cX7_order 132 = .ok (.invokevirtual 228, 3) := by decide +kernel
theorem dX7_order_135 : decode cX7_order 135 = .ok (.if_icmp .ne 11, 3) := by decide +kernel
theorem dX7_order_138 : decode cX7_order 138 = .ok (.aload_n 0, 1) := by decide +kernel
theorem dX7_order_139 : decode cX7_order 139 = .ok (.iload_n 3, 1) := by decide +kernel
theorem dX7_order_140 : decode cX7_order 140 = .ok (.invokevirtual 209, 3) := by decide +kernel
theorem dX7_order_143 : decode cX7_order 143 = .ok (.goto 9, 3) := by decide +kernel
theorem dX7_order_146 : decode cX7_order 146 = .ok (.aload_n 0, 1) := by decide +kernel
theorem dX7_order_147 : decode cX7_order 147 = .ok (.ldc 44, 2) := by decide +kernel
theorem dX7_order_149 : decode cX7_order 149 = .ok (.invokevirtual 45, 3) := by decide +kernel
theorem dX7_order_152 : decode cX7_order 152 = .ok (.ireturn, 1) := by decide +kernel
theorem dX7_steps_0 : decode cX7_steps 0 = .ok (.iload_n 1, 1) := by decide +kernel
theorem dX7_steps_1 : decode cX7_steps 1 = .ok (.i2l, 1) := by decide +kernel
theorem dX7_steps_2 : decode cX7_steps 2 = .ok (.lconst 1, 1) := by decide +kernel
theorem dX7_steps_3 : decode cX7_steps 3 = .ok (.ldc2_w 231, 3) := by decide +kernel
theorem dX7_steps_6 : decode cX7_steps 6 = .ok (.invokestatic 51, 3) := by decide +kernel
theorem dX7_steps_9 : decode cX7_steps 9 = .ok (.ifCond .ne 10, 3) := by decide +kernel
theorem dX7_steps_12 : decode cX7_steps 12 = .ok (.aload_n 0, 1) := by decide +kernel
theorem dX7_steps_13 : decode cX7_steps 13 = .ok (.ldc 43, 2) := by decide +kernel
theorem dX7_steps_15 : decode cX7_steps 15 = .ok (.invokevirtual 45, 3) := by decide +kernel
theorem dX7_steps_18 : decode cX7_steps 18 = .ok (.ireturn, 1) := by decide +kernel
theorem dX7_steps_19 : decode cX7_steps 19 = .ok (.iconst 0, 1) := by decide +kernel
theorem dX7_steps_20 : decode cX7_steps 20 = .ok (.istore_n 2, 1) := by decide +kernel
theorem dX7_steps_21 : decode cX7_steps 21 = .ok (.iconst 0, 1) := by decide +kernel
theorem dX7_steps_22 : decode cX7_steps 22 = .ok (.istore_n 3, 1) := by decide +kernel
theorem dX7_steps_23 : decode cX7_steps 23 = .ok (.iload_n 2, 1) := by decide +kernel
theorem dX7_steps_24 : decode cX7_steps 24 = .ok (.aload_n 0, 1) := by decide +kernel
theorem dX7_steps_25 : decode cX7_steps 25 = .ok (.invokevirtual 228, 3) := by decide +kernel
theorem dX7_steps_28 : decode cX7_steps 28 = .ok (.if_icmp .eq 97, 3) := by decide +kernel
theorem dX7_steps_31 : decode cX7_steps 31 = .ok (.iconst 0, 1) := by decide +kernel
theorem dX7_steps_32 : decode cX7_steps 32 = .ok (.istore 4, 2) := by decide +kernel
theorem dX7_steps_34 : decode cX7_steps 34 = .ok (.iconst 0, 1) := by decide +kernel
theorem dX7_steps_35 : decode cX7_steps 35 = .ok (.istore 5, 2) := by decide +kernel
theorem dX7_steps_37 : decode cX7_steps 37 = .ok (.iload 5, 2) := by decide +kernel
theorem dX7_steps_39 : decode cX7_steps 39 = .ok (.aload_n 0, 1) := by decide +kernel
theorem dX7_steps_40 : decode cX7_steps 40 = .ok (.getfield 9, 3) := by decide +kernel
theorem dX7_steps_43 : decode cX7_steps 43 = .ok (.iconst 5, 1) := by decide +kernel
theorem dX7_steps_44 : decode cX7_steps 44 = .ok (.iaload, 1) := by decide +kernel
theorem dX7_steps_45 : decode cX7_steps 45 = .ok (.if_icmp .ge 57, 3) := by decide +kernel
theorem dX7_steps_48 : decode cX7_steps 48 = .ok (.iload 4, 2) := by decide +kernel
theorem dX7_steps_50 : decode cX7_steps 50 = .ok (.aload_n 0, 1) := by decide +kernel
theorem dX7_steps_51 : decode cX7_steps 51 = .ok (.invokevirtual 228, 3) := by decide +kernel
theorem dX7_steps_54 : decode cX7_steps 54 = .ok (.iload_n 2, 1) := by decide +kernel
theorem dX7_steps_55 : decode cX7_steps 55 = .ok (.iconst (-1), 1) := by decide +kernel
theorem dX7_steps_56 : decode cX7_steps 56 = .ok (.ixor, 1) := by decide +kernel
theorem dX7_steps_57 : decode cX7_steps 57 = .ok (.iand, 1) := by decide +kernel
theorem dX7_steps_58 : decode cX7_steps 58 = .ok (.iload 5, 2) := by decide +kernel
theorem dX7_steps_60 : decode cX7_steps 60 = .ok (.invokestatic 83, 3) := by decide +kernel
theorem dX7_steps_63 : decode cX7_steps 63 = .ok (.ifCond .eq 29, 3) := by decide +kernel
theorem dX7_steps_66 : decode cX7_steps 66 = .ok (.iload 4, 2) := by decide +kernel
theorem dX7_steps_68 : decode cX7_steps 68 = .ok (.invokestatic 180, 3) := by decide +kernel
theorem dX7_steps_71 : decode cX7_steps 71 = .ok (.iload_n 1, 1) := by decide +kernel
theorem dX7_steps_72 : decode cX7_steps 72 = .ok (.if_icmp .ge 20, 3) := by decide +kernel
theorem dX7_steps_75 : decode cX7_steps 75 = .ok (.aload_n 0, 1) := by decide +kernel
theorem dX7_steps_76 : decode cX7_steps 76 = .ok (.iload 5, 2) := by decide +kernel
theorem dX7_steps_78 : decode cX7_steps 78 = .ok (.iload_n 2, 1) := by decide +kernel
theorem dX7_steps_79 : decode cX7_steps 79 = .ok (.invokevirtual 108, 3) := by decide +kernel
theorem dX7_steps_82 : decode cX7_steps 82 = .ok (.ifCond .eq 10, 3) := by decide +kernel
theorem dX7_steps_85 : decode cX7_steps 85 = .ok (.iconst 1, 1) := by decide +kernel
theorem dX7_steps_86 : decode cX7_steps 86 = .ok (.iload 5, 2) := by decide +kernel
theorem dX7_steps_88 : decode cX7_steps 88 = .ok (.ishl, 1) := by decide +kernel
theorem dX7_steps_89 : decode cX7_steps 89 = .ok (.goto 4, 3) := by decide +kernel
theorem dX7_steps_92 : decode cX7_steps 92 = .ok (.iconst 0, 1) := by decide +kernel
theorem dX7_steps_93 : decode cX7_steps 93 = .ok (.ior, 1) := by decide +kernel
theorem dX7_steps_94 : decode cX7_steps 94 = .ok (.istore 4, 2) := by decide +kernel
theorem dX7_steps_96 : decode cX7_steps 96 = .ok (.iinc 5 1, 3) := by decide +kernel
theorem dX7_steps_99 : decode cX7_steps 99 = .ok (.goto (-62), 3) := by decide +kernel
theorem dX7_steps_102 : decode cX7_steps 102 = .ok (.iload 4, 2) := by decide +kernel
theorem dX7_steps_104 : decode cX7_steps 104 = .ok (.ifCond .ne 10, 3) := by decide +kernel
theorem dX7_steps_107 : decode cX7_steps 107 = .ok (.aload_n 0, 1) := by decide +kernel
theorem dX7_steps_108 : decode cX7_steps 108 = .ok (.ldc 44, 2) := by decide +kernel
theorem dX7_steps_110 : decode cX7_steps 110 = .ok (.invokevirtual 45, 3) := by decide +kernel
theorem dX7_steps_113 : decode cX7_steps 113 = .ok (.ireturn, 1) := by decide +kernel
theorem dX7_steps_114 : decode cX7_steps 114 = .ok (.iload_n 2, 1) := by decide +kernel
theorem dX7_steps_115 : decode cX7_steps 115 = .ok (.iload 4, 2) := by decide +kernel
theorem dX7_steps_117 : decode cX7_steps 117 = .ok (.ior, 1) := by decide +kernel
theorem dX7_steps_118 : decode cX7_steps 118 = .ok (.istore_n 2, 1) := by decide +kernel
theorem dX7_steps_119 : decode cX7_steps 119 = .ok (.iinc 3 1, 3) := by decide +kernel
theorem dX7_steps_122 : decode cX7_steps 122 = .ok (.goto (-99), 3) := by decide +kernel
theorem dX7_steps_125 : decode cX7_steps 125 = .ok (.iload_n 3, 1) := by decide +kernel
theorem dX7_steps_126 : decode cX7_steps 126 = .ok (.ireturn, 1) := by decide +kernel
theorem dX7_shaken_0 : decode cX7_shaken 0 = .ok (.iconst 0, 1) := by decide +kernel
theorem dX7_shaken_1 : decode cX7_shaken 1 = .ok (.istore_n 2, 1) := by decide +kernel
theorem dX7_shaken_2 : decode cX7_shaken 2 = .ok (.iconst 0, 1) := by decide +kernel
theorem dX7_shaken_3 : decode cX7_shaken 3 = .ok (.istore_n 3, 1) := by decide +kernel
theorem dX7_shaken_4 : decode cX7_shaken 4 = .ok (.iload_n 3, 1) := by decide +kernel
theorem dX7_shaken_5 : decode cX7_shaken 5 = .ok (.aload_n 0, 1) := by decide +kernel
theorem dX7_shaken_6 : decode cX7_shaken 6 = .ok (.getfield 9, 3) := by decide +kernel
theorem dX7_shaken_9 : decode cX7_shaken 9 = .ok (.iconst 5, 1) := by decide +kernel
theorem dX7_shaken_10 : decode cX7_shaken 10 = .ok (.iaload, 1) := by decide +kernel
theorem dX7_shaken_11 : decode cX7_shaken 11 = .ok (.if_icmp .ge 37, 3) := by decide +kernel
theorem dX7_shaken_14 : decode cX7_shaken 14 = .ok (.iload_n 2, 1) := by decide +kernel
theorem dX7_shaken_15 : decode cX7_shaken 15 = .ok (.aload_n 0, 1) := by decide +kernel
theorem dX7_shaken_16 : decode cX7_shaken 16 = .ok (.iload_n 3, 1) := by decide +kernel
theorem dX7_shaken_17 : decode cX7_shaken 17 = .ok (.invokevirtual 105, 3) := by decide +kernel
theorem dX7_shaken_20 : decode cX7_shaken 20 = .ok (.ifCond .ne 19, 3) := by decide +kernel
theorem dX7_shaken_23 : decode cX7_shaken 23 = .ok (.aload_n 0, 1) := by decide +kernel
theorem dX7_shaken_24 : decode cX7_shaken 24 = .ok (.iload_n 3, 1) := by decide +kernel
theorem dX7_shaken_25 : decode cX7_shaken 25 = .ok (.invokevirtual 111, 3) := by decide +kernel
theorem dX7_shaken_28 : decode cX7_shaken 28 = .ok (.iload_n 1, 1) := by decide +kernel
theorem dX7_shaken_29 : decode cX7_shaken 29 = .ok (.irem, 1) := by decide +kernel
theorem dX7_shaken_30 : decode cX7_shaken 30 = .ok (.ifCond .ne 9, 3) := by decide +kernel
theorem dX7_shaken_33 : decode cX7_shaken 33 = .ok (.iconst 1, 1) := by decide +kernel
theorem dX7_shaken_34 : decode cX7_shaken 34 = .ok (.iload_n 3, 1) := by decide +kernel
theorem dX7_shaken_35 : decode cX7_shaken 35 = .ok (.ishl, 1) := by decide +kernel
theorem dX7_shaken_36 : decode cX7_shaken 36 = .ok (.goto 4, 3) := by decide +kernel
theorem dX7_shaken_39 : decode cX7_shaken 39 = .ok (.iconst 0, 1) := by decide +kernel
theorem dX7_shaken_40 : decode cX7_shaken 40 = .ok (.ior, 1) := by decide +kernel
theorem dX7_shaken_41 : decode cX7_shaken 41 = .ok (.istore_n 2, 1) := by decide +kernel
theorem dX7_shaken_42 : decode cX7_shaken 42 = .ok (.iinc 3 1, 3) := by decide +kernel
theorem dX7_shaken_45 : decode cX7_shaken 45 = .ok (.goto (-41), 3) := by decide +kernel
theorem dX7_shaken_48 : decode cX7_shaken 48 = .ok (.iload_n 2, 1) := by decide +kernel
theorem dX7_shaken_49 : decode cX7_shaken 49 = .ok (.ireturn, 1) := by decide +kernel
theorem dX7_isTune_0 : decode cX7_isTune 0 = .ok (.iload_n 0, 1) := by decide +kernel
theorem dX7_isTune_1 : decode cX7_isTune 1 = .ok (.i2l, 1) := by decide +kernel
theorem dX7_isTune_2 : decode cX7_isTune 2 = .ok (.ldc2_w 233, 3) := by decide +kernel
theorem dX7_isTune_5 : decode cX7_isTune 5 = .ok (.ldc2_w 235, 3) := by decide +kernel
theorem dX7_isTune_8 : decode cX7_isTune 8 = .ok (.invokestatic 51, 3) := by decide +kernel
theorem dX7_isTune_11 : decode cX7_isTune 11 = .ok (.ireturn, 1) := by decide +kernel
theorem dX7_shakes_0 : decode cX7_shakes 0 = .ok (.iload_n 1, 1) := by decide +kernel
theorem dX7_shakes_1 : decode cX7_shakes 1 = .ok (.invokestatic 237, 3) := by decide +kernel
theorem dX7_shakes_4 : decode cX7_shakes 4 = .ok (.ifCond .eq 11, 3) := by decide +kernel
theorem dX7_shakes_7 : decode cX7_shakes 7 = .ok (.aload_n 0, 1) := by decide +kernel
theorem dX7_shakes_8 : decode cX7_shakes 8 = .ok (.iload_n 1, 1) := by decide +kernel
theorem dX7_shakes_9 : decode cX7_shakes 9 = .ok (.invokevirtual 240, 3) := by decide +kernel
theorem dX7_shakes_12 : decode cX7_shakes 12 = .ok (.goto 9, 3) := by decide +kernel
theorem dX7_shakes_15 : decode cX7_shakes 15 = .ok (.aload_n 0, 1) := by decide +kernel
theorem dX7_shakes_16 : decode cX7_shakes 16 = .ok (.ldc 43, 2) := by decide +kernel
theorem dX7_shakes_18 : decode cX7_shakes 18 = .ok (.invokevirtual 45, 3) := by decide +kernel
theorem dX7_shakes_21 : decode cX7_shakes 21 = .ok (.ireturn, 1) := by decide +kernel
theorem dX7_danced_0 : decode cX7_danced 0 = .ok (.aload_n 0, 1) := by decide +kernel
theorem dX7_danced_1 : decode cX7_danced 1 = .ok (.invokevirtual 174, 3) := by decide +kernel
theorem dX7_danced_4 : decode cX7_danced 4 = .ok (.istore_n 2, 1) := by decide +kernel
theorem dX7_danced_5 : decode cX7_danced 5 = .ok (.aload_n 0, 1) := by decide +kernel
theorem dX7_danced_6 : decode cX7_danced 6 = .ok (.iload_n 1, 1) := by decide +kernel
theorem dX7_danced_7 : decode cX7_danced 7 = .ok (.invokevirtual 240, 3) := by decide +kernel
theorem dX7_danced_10 : decode cX7_danced 10 = .ok (.istore_n 3, 1) := by decide +kernel
theorem dX7_danced_11 : decode cX7_danced 11 = .ok (.iconst 0, 1) := by decide +kernel
theorem dX7_danced_12 : decode cX7_danced 12 = .ok (.istore 4, 2) := by decide +kernel
theorem dX7_danced_14 : decode cX7_danced 14 = .ok (.iload 4, 2) := by decide +kernel
theorem dX7_danced_16 : decode cX7_danced 16 = .ok (.aload_n 0, 1) := by decide +kernel
theorem dX7_danced_17 : decode cX7_danced 17 = .ok (.getfield 9, 3) := by decide +kernel
theorem dX7_danced_20 : decode cX7_danced 20 = .ok (.iconst 5, 1) := by decide +kernel
theorem dX7_danced_21 : decode cX7_danced 21 = .ok (.iaload, 1) := by decide +kernel
theorem dX7_danced_22 : decode cX7_danced 22 = .ok (.if_icmp .ge 45, 3) := by decide +kernel
theorem dX7_danced_25 : decode cX7_danced 25 = .ok (.iload_n 3, 1) := by decide +kernel
theorem dX7_danced_26 : decode cX7_danced 26 = .ok (.iload 4, 2) := by decide +kernel
theorem dX7_danced_28 : decode cX7_danced 28 = .ok (.invokestatic 83, 3) := by decide +kernel
theorem dX7_danced_31 : decode cX7_danced 31 = .ok (.ifCond .ne 6, 3) := by decide +kernel
theorem dX7_danced_34 : decode cX7_danced 34 = .ok (.goto 27, 3) := by decide +kernel
theorem dX7_danced_37 : decode cX7_danced 37 = .ok (.aload_n 0, 1) := by decide +kernel
theorem dX7_danced_38 : decode cX7_danced 38 = .ok (.iload 4, 2) := by decide +kernel
theorem dX7_danced_40 : decode cX7_danced 40 = .ok (.aload_n 0, 1) := by decide +kernel
theorem dX7_danced_41 : decode cX7_danced 41 = .ok (.iload 4, 2) := by decide +kernel
theorem dX7_danced_43 : decode cX7_danced 43 = .ok (.invokevirtual 111, 3) := by decide +kernel
theorem dX7_danced_46 : decode cX7_danced 46 = .ok (.iconst 1, 1) := by decide +kernel
theorem dX7_danced_47 : decode cX7_danced 47 = .ok (.isub, 1) := by decide +kernel
theorem dX7_danced_48 : decode cX7_danced 48 = .ok (.invokevirtual 140, 3) := by decide +kernel
theorem dX7_danced_51 : decode cX7_danced 51 = .ok (.aload_n 0, 1) := by decide +kernel
theorem dX7_danced_52 : decode cX7_danced 52 = .ok (.getfield 9, 3) := by decide +kernel
theorem dX7_danced_55 : decode cX7_danced 55 = .ok (.iconst 2, 1) := by decide +kernel
theorem dX7_danced_56 : decode cX7_danced 56 = .ok (.dup2, 1) := by decide +kernel
theorem dX7_danced_57 : decode cX7_danced 57 = .ok (.iaload, 1) := by decide +kernel
theorem dX7_danced_58 : decode cX7_danced 58 = .ok (.iconst 1, 1) := by decide +kernel
theorem dX7_danced_59 : decode cX7_danced 59 = .ok (.iadd, 1) := by decide +kernel
theorem dX7_danced_60 : decode cX7_danced 60 = .ok (.iastore, 1) := by decide +kernel
theorem dX7_danced_61 : decode cX7_danced 61 = .ok (.iinc 4 1, 3) := by decide +kernel
theorem dX7_danced_64 : decode cX7_danced 64 = .ok (.goto (-50), 3) := by decide +kernel
theorem dX7_danced_67 : decode cX7_danced 67 = .ok (.aload_n 0, 1) := by decide +kernel
theorem dX7_danced_68 : decode cX7_danced 68 = .ok (.invokevirtual 166, 3) := by decide +kernel
theorem dX7_danced_71 : decode cX7_danced 71 = .ok (.aload_n 0, 1) := by decide +kernel
theorem dX7_danced_72 : decode cX7_danced 72 = .ok (.invokevirtual 169, 3) := by decide +kernel
theorem dX7_danced_75 : decode cX7_danced 75 = .ok (.aload_n 0, 1) := by decide +kernel
theorem dX7_danced_76 : decode cX7_danced 76 = .ok (.invokevirtual 174, 3) := by decide +kernel
