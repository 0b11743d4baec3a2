theorem dX9_finds_4 : decode cX9_finds 4 = .ok (.invokestatic 140, 3) := by decide +kernel
theorem dX9_finds_7 : decode cX9_finds 7 = .ok (.ifCond .eq 21, 3) := by decide +kernel
theorem dX9_finds_10 : decode cX9_finds 10 = .ok (.iload_n 2, 1) := by decide +kernel
theorem dX9_finds_11 : decode cX9_finds 11 = .ok (.iconst 0, 1) := by decide +kernel
theorem dX9_finds_12 : decode cX9_finds 12 = .ok (.iload_n 1, 1) := by decide +kernel
theorem dX9_finds_13 : decode cX9_finds 13 = .ok (.invokestatic 140, 3) := by decide +kernel
theorem dX9_finds_16 : decode cX9_finds 16 = .ok (.ifCond .eq 12, 3) := by decide +kernel
theorem dX9_finds_19 : decode cX9_finds 19 = .ok (.iload_n 3, 1) := by decide +kernel
theorem dX9_finds_20 : decode cX9_finds 20 = .ok (.iconst 0, 1) := by decide +kernel
theorem dX9_finds_21 : decode cX9_finds 21 = .ok (.iload_n 1, 1) := by decide +kernel
theorem dX9_finds_22 : decode cX9_finds 22 = .ok (.invokestatic 140, 3) := by decide +kernel
theorem dX9_finds_25 : decode cX9_finds 25 = .ok (.ifCond .ne 5, 3) := by decide +kernel
theorem dX9_finds_28 : decode cX9_finds 28 = .ok (.iconst (-1), 1) := by decide +kernel
theorem dX9_finds_29 : decode cX9_finds 29 = .ok (.ireturn, 1) := by decide +kernel
theorem dX9_finds_30 : decode cX9_finds 30 = .ok (.iload_n 1, 1) := by decide +kernel
theorem dX9_finds_31 : decode cX9_finds 31 = .ok (.iload_n 3, 1) := by decide +kernel
theorem dX9_finds_32 : decode cX9_finds 32 = .ok (.invokestatic 383, 3) := by decide +kernel
theorem dX9_finds_35 : decode cX9_finds 35 = .ok (.lstore 4, 2) := by decide +kernel
theorem dX9_finds_37 : decode cX9_finds 37 = .ok (.aload_n 0, 1) := by decide +kernel
theorem dX9_finds_38 : decode cX9_finds 38 = .ok (.lload 4, 2) := by decide +kernel
theorem dX9_finds_40 : decode cX9_finds 40 = .ok (.iload_n 1, 1) := by decide +kernel
theorem dX9_finds_41 : decode cX9_finds 41 = .ok (.iload_n 2, 1) := by decide +kernel
theorem dX9_finds_42 : decode cX9_finds 42 = .ok (.isub, 1) := by decide +kernel
theorem dX9_finds_43 : decode cX9_finds 43 = .ok (.iload_n 3, 1) := by decide +kernel
theorem dX9_finds_44 : decode cX9_finds 44 = .ok (.invokestatic 383, 3) := by decide +kernel
theorem dX9_finds_47 : decode cX9_finds 47 = .ok (.lsub, 1) := by decide +kernel
theorem dX9_finds_48 : decode cX9_finds 48 = .ok (.lload 4, 2) := by decide +kernel
theorem dX9_finds_50 : decode cX9_finds 50 = .ok (.invokevirtual 380, 3) := by decide +kernel
theorem dX9_finds_53 : decode cX9_finds 53 = .ok (.iconst 0, 1) := by decide +kernel
theorem dX9_finds_54 : decode cX9_finds 54 = .ok (.ireturn, 1) := by decide +kernel
theorem dX9_choices_0 : decode cX9_choices 0 = .ok (.iload_n 1, 1) := by decide +kernel
theorem dX9_choices_1 : decode cX9_choices 1 = .ok (.iload_n 0, 1) := by decide +kernel
theorem dX9_choices_2 : decode cX9_choices 2 = .ok (.if_icmp .gt 7, 3) := by decide +kernel
theorem dX9_choices_5 : decode cX9_choices 5 = .ok (.lconst 1, 1) := by decide +kernel
theorem dX9_choices_6 : decode cX9_choices 6 = .ok (.goto 4, 3) := by decide +kernel
theorem dX9_choices_9 : decode cX9_choices 9 = .ok (.lconst 0, 1) := by decide +kernel
theorem dX9_choices_10 : decode cX9_choices 10 = .ok (.lstore_n 2, 1) := by decide +kernel
theorem dX9_choices_11 : decode cX9_choices 11 = .ok (.iconst 1, 1) := by decide +kernel
theorem dX9_choices_12 : decode cX9_choices 12 = .ok (.istore 4, 2) := by decide +kernel
theorem dX9_choices_14 : decode cX9_choices 14 = .ok (.iload 4, 2) := by decide +kernel
theorem dX9_choices_16 : decode cX9_choices 16 = .ok (.iload_n 1, 1) := by decide +kernel
theorem dX9_choices_17 : decode cX9_choices 17 = .ok (.if_icmp .gt 29, 3) := by decide +kernel
theorem dX9_choices_20 : decode cX9_choices 20 = .ok (.iload 4, 2) := by decide +kernel
theorem dX9_choices_22 : decode cX9_choices 22 = .ok (.iload_n 0, 1) := by decide +kernel
theorem dX9_choices_23 : decode cX9_choices 23 = .ok (.if_icmp .gt 23, 3) := by decide +kernel
theorem dX9_choices_26 : decode cX9_choices 26 = .ok (.lload_n 2, 1) := by decide +kernel
theorem dX9_choices_27 : decode cX9_choices 27 = .ok (.iload_n 0, 1) := by decide +kernel
theorem dX9_choices_28 : decode cX9_choices 28 = .ok (.iload 4, 2) := by decide +kernel
theorem dX9_choices_30 : decode cX9_choices 30 = .ok (.isub, 1) := by decide +kernel
theorem dX9_choices_31 : decode cX9_choices 31 = .ok (.iconst 1, 1) := by decide +kernel
theorem dX9_choices_32 : decode cX9_choices 32 = .ok (.iadd, 1) := by decide +kernel
theorem dX9_choices_33 : decode cX9_choices 33 = .ok (.i2l, 1) := by decide +kernel
theorem dX9_choices_34 : decode cX9_choices 34 = .ok (.lmul, 1) := by decide +kernel
theorem dX9_choices_35 : decode cX9_choices 35 = .ok (.iload 4, 2) := by decide +kernel
theorem dX9_choices_37 : decode cX9_choices 37 = .ok (.i2l, 1) := by decide +kernel
theorem dX9_choices_38 : decode cX9_choices 38 = .ok (.ldiv, 1) := by decide +kernel
theorem dX9_choices_39 : decode cX9_choices 39 = .ok (.lstore_n 2, 1) := by decide +kernel
theorem dX9_choices_40 : decode cX9_choices 40 = .ok (.iinc 4 1, 3) := by decide +kernel
theorem dX9_choices_43 : decode cX9_choices 43 = .ok (.goto (-29), 3) := by decide +kernel
theorem dX9_choices_46 : decode cX9_choices 46 = .ok (.lload_n 2, 1) := by decide +kernel
theorem dX9_choices_47 : decode cX9_choices 47 = .ok (.lreturn, 1) := by decide +kernel
theorem dX9_tellFraction_0 : decode cX9_tellFraction 0 = .ok (.lload_n 1, 1) := by decide +kernel
theorem dX9_tellFraction_1 : decode cX9_tellFraction 1 = .ok (.lload_n 3, 1) := by decide +kernel
theorem dX9_tellFraction_2 : decode cX9_tellFraction 2 = .ok (.invokestatic 386, 3) := by decide +kernel
theorem dX9_tellFraction_5 : decode cX9_tellFraction 5 = .ok (.lstore 5, 2) := by decide +kernel
theorem dX9_tellFraction_7 : decode cX9_tellFraction 7 = .ok (.aload_n 0, 1) := by decide +kernel
theorem dX9_tellFraction_8 : decode cX9_tellFraction 8 = .ok (.getfield 19, 3) := by decide +kernel
theorem dX9_tellFraction_11 : decode cX9_tellFraction 11 = .ok (.lload_n 1, 1) := by decide +kernel
theorem dX9_tellFraction_12 : decode cX9_tellFraction 12 = .ok (.lload 5, 2) := by decide +kernel
theorem dX9_tellFraction_14 : decode cX9_tellFraction 14 = .ok (.ldiv, 1) := by decide +kernel
theorem dX9_tellFraction_15 : decode cX9_tellFraction 15 = .ok (.lload_n 3, 1) := by decide +kernel
theorem dX9_tellFraction_16 : decode cX9_tellFraction 16 = .ok (.lload 5, 2) := by decide +kernel
theorem dX9_tellFraction_18 : decode cX9_tellFraction 18 = .ok (.ldiv, 1) := by decide +kernel
theorem dX9_tellFraction_19 : decode cX9_tellFraction 19 = .ok (.invokevirtual 185, 3) := by decide +kernel
theorem dX9_tellFraction_22 : decode cX9_tellFraction 22 = .ok (.return_, 1) := by decide +kernel
theorem dX9_commonDivisor_0 : decode cX9_commonDivisor 0 = .ok (.lload_n 0, 1) := by decide +kernel
theorem dX9_commonDivisor_1 : decode cX9_commonDivisor 1 = .ok (.lstore 4, 2) := by decide +kernel
theorem dX9_commonDivisor_3 : decode cX9_commonDivisor 3 = .ok (.lload_n 2, 1) := by decide +kernel
theorem dX9_commonDivisor_4 : decode cX9_commonDivisor 4 = .ok (.lstore 6, 2) := by decide +kernel
theorem dX9_commonDivisor_6 : decode cX9_commonDivisor 6 = .ok (.iconst 0, 1) := by decide +kernel
theorem dX9_commonDivisor_7 : decode cX9_commonDivisor 7 = .ok (.istore 8, 2) := by decide +kernel
theorem dX9_commonDivisor_9 : decode cX9_commonDivisor 9 = .ok (.iload 8, 2) := by decide +kernel
theorem dX9_commonDivisor_11 : decode cX9_commonDivisor 11 = .ok (.bipush 100, 2) := by decide +kernel
theorem dX9_commonDivisor_13 : decode cX9_commonDivisor 13 = .ok (.if_icmp .ge 31, 3) := by decide +kernel
theorem dX9_commonDivisor_16 : decode cX9_commonDivisor 16 = .ok (.lload 6, 2) := by decide +kernel
theorem dX9_commonDivisor_18 : decode cX9_commonDivisor 18 = .ok (.lconst 0, 1) := by decide +kernel
theorem dX9_commonDivisor_19 : decode cX9_commonDivisor 19 = .ok (.lcmp, 1) := by decide +kernel
theorem dX9_commonDivisor_20 : decode cX9_commonDivisor 20 = .ok (.ifCond .eq 24, 3) := by decide +kernel
theorem dX9_commonDivisor_23 : decode cX9_commonDivisor 23 = .ok (.lload 4, 2) := by decide +kernel
theorem dX9_commonDivisor_25 : decode cX9_commonDivisor 25 = .ok (.lload 6, 2) := by decide +kernel
theorem dX9_commonDivisor_27 : decode cX9_commonDivisor 27 = .ok (.lrem, 1) := by decide +kernel
theorem dX9_commonDivisor_28 : decode cX9_commonDivisor 28 = .ok (.lstore 9, 2) := by decide +kernel
theorem dX9_commonDivisor_30 : decode cX9_commonDivisor 30 = .ok (.lload 6, 2) := by decide +kernel
theorem dX9_commonDivisor_32 : decode cX9_commonDivisor 32 = .ok (.lstore 4, 2) := by decide +kernel
theorem dX9_commonDivisor_34 : decode cX9_commonDivisor 34 = .ok (.lload 9, 2) := by decide +kernel
theorem dX9_commonDivisor_36 : decode cX9_commonDivisor 36 = .ok (.lstore 6, 2) := by decide +kernel
theorem dX9_commonDivisor_38 : decode cX9_commonDivisor 38 = .ok (.iinc 8 1, 3) := by decide +kernel
theorem dX9_commonDivisor_41 : decode cX9_commonDivisor 41 = .ok (.goto (-32), 3) := by decide +kernel
theorem dX9_commonDivisor_44 : decode cX9_commonDivisor 44 = .ok (.lload 4, 2) := by decide +kernel
theorem dX9_commonDivisor_46 : decode cX9_commonDivisor 46 = .ok (.lconst 0, 1) := by decide +kernel
theorem dX9_commonDivisor_47 : decode cX9_commonDivisor 47 = .ok (.lcmp, 1) := by decide +kernel
theorem dX9_commonDivisor_48 : decode cX9_commonDivisor 48 = .ok (.ifCond .ne 7, 3) := by decide +kernel
theorem dX9_commonDivisor_51 : decode cX9_commonDivisor 51 = .ok (.lconst 1, 1) := by decide +kernel
theorem dX9_commonDivisor_52 : decode cX9_commonDivisor 52 = .ok (.goto 5, 3) := by decide +kernel
theorem dX9_commonDivisor_55 : decode cX9_commonDivisor 55 = .ok (.lload 4, 2) := by decide +kernel
theorem dX9_commonDivisor_57 : decode cX9_commonDivisor 57 = .ok (.lreturn, 1) := by decide +kernel
theorem dX9_law_0 : decode cX9_law 0 = .ok (.aload_n 0, 1) := by decide +kernel
theorem dX9_law_1 : decode cX9_law 1 = .ok (.getfield 98, 3) := by decide +kernel
theorem dX9_law_4 : decode cX9_law 4 = .ok (.aload_n 0, 1) := by decide +kernel
theorem dX9_law_5 : decode cX9_law 5 = .ok (.getfield 10, 3) := by decide +kernel
theorem dX9_law_8 : decode cX9_law 8 = .ok (.invokevirtual 136, 3) := by decide +kernel
theorem dX9_law_11 : decode cX9_law 11 = .ok (.istore_n 1, 1) := by decide +kernel
theorem dX9_law_12 : decode cX9_law 12 = .ok (.aload_n 0, 1) := by decide +kernel
theorem dX9_law_13 : decode cX9_law 13 = .ok (.getfield 10, 3) := by decide +kernel
theorem dX9_law_16 : decode cX9_law 16 = .ok (.invokevirtual 115, 3) := by decide +kernel
theorem dX9_law_19 : decode cX9_law 19 = .ok (.iload_n 1, 1) := by decide +kernel
theorem dX9_law_20 : decode cX9_law 20 = .ok (.iconst (-1), 1) := by decide +kernel
theorem dX9_law_21 : decode cX9_law 21 = .ok (.if_icmp .eq 9, 3) := by decide +kernel
theorem dX9_law_24 : decode cX9_law 24 = .ok (.ldc_w 389, 3) := by decide +kernel
theorem dX9_law_27 : decode cX9_law 27 = .ok (.iload_n 1, 1) := by decide +kernel
theorem dX9_law_28 : decode cX9_law 28 = .ok (.isub, 1) := by decide +kernel
theorem dX9_law_29 : decode cX9_law 29 = .ok (.ireturn, 1) := by decide +kernel
theorem dX9_law_30 : decode cX9_law 30 = .ok (.iconst 0, 1) := by decide +kernel
theorem dX9_law_31 : decode cX9_law 31 = .ok (.istore_n 2, 1) := by decide +kernel
theorem dX9_law_32 : decode cX9_law 32 = .ok (.iconst 0, 1) := by decide +kernel
theorem dX9_law_33 : decode cX9_law 33 = .ok (.istore_n 3, 1) := by decide +kernel
theorem dX9_law_34 : decode cX9_law 34 = .ok (.iconst 0, 1) := by decide +kernel
theorem dX9_law_35 : decode cX9_law 35 = .ok (.istore 4, 2) := by decide +kernel
theorem dX9_law_37 : decode cX9_law 37 = .ok (.iload 4, 2) := by decide +kernel
theorem dX9_law_39 : decode cX9_law 39 = .ok (.aload_n 0, 1) := by decide +kernel
theorem dX9_law_40 : decode cX9_law 40 = .ok (.getfield 26, 3) := by decide +kernel
theorem dX9_law_43 : decode cX9_law 43 = .ok (.getfield 47, 3) := by decide +kernel
theorem dX9_law_46 : decode cX9_law 46 = .ok (.if_icmp .ge 39, 3) := by decide +kernel
theorem dX9_law_49 : decode cX9_law 49 = .ok (.iload_n 2, 1) := by decide +kernel
theorem dX9_law_50 : decode cX9_law 50 = .ok (.aload_n 0, 1) := by decide +kernel
theorem dX9_law_51 : decode cX9_law 51 = .ok (.aload_n 0, 1) := by decide +kernel
theorem dX9_law_52 : decode cX9_law 52 = .ok (.getfield 98, 3) := by decide +kernel
theorem dX9_law_55 : decode cX9_law 55 = .ok (.aload_n 0, 1) := by decide +kernel
theorem dX9_law_56 : decode cX9_law 56 = .ok (.getfield 26, 3) := by decide +kernel
theorem dX9_law_59 : decode cX9_law 59 = .ok (.iload 4, 2) := by decide +kernel
theorem dX9_law_61 : decode cX9_law 61 = .ok (.invokevirtual 348, 3) := by decide +kernel
theorem dX9_law_64 : decode cX9_law 64 = .ok (.iadd, 1) := by decide +kernel
theorem dX9_law_65 : decode cX9_law 65 = .ok (.istore_n 2, 1) := by decide +kernel
theorem dX9_law_66 : decode cX9_law 66 = .ok (.iload_n 3, 1) := by decide +kernel
theorem dX9_law_67 : decode cX9_law 67 = .ok (.aload_n 0, 1) := by decide +kernel
theorem dX9_law_68 : decode cX9_law 68 = .ok (.aload_n 0, 1) := by decide +kernel
theorem dX9_law_69 : decode cX9_law 69 = .ok (.getfield 26, 3) := by decide +kernel
theorem dX9_law_72 : decode cX9_law 72 = .ok (.iload 4, 2) := by decide +kernel
theorem dX9_law_74 : decode cX9_law 74 = .ok (.invokevirtual 153, 3) := by decide +kernel
theorem dX9_law_77 : decode cX9_law 77 = .ok (.iadd, 1) := by decide +kernel
theorem dX9_law_78 : decode cX9_law 78 = .ok (.istore_n 3, 1) := by decide +kernel
theorem dX9_law_79 : decode cX9_law 79 = .ok (.iinc 4 1, 3) := by decide +kernel
theorem dX9_law_82 : decode cX9_law 82 = .ok (.goto (-45), 3) := by decide +kernel
theorem dX9_law_85 : decode cX9_law 85 = .ok (.aload_n 0, 1) := by decide +kernel
theorem dX9_law_86 : decode cX9_law 86 = .ok (.getfield 19, 3) := by decide +kernel
theorem dX9_law_89 : decode cX9_law 89 = .ok (.iload_n 2, 1) := by decide +kernel
theorem dX9_law_90 : decode cX9_law 90 = .ok (.i2l, 1) := by decide +kernel
theorem dX9_law_91 : decode cX9_law 91 = .ok (.iload_n 3, 1) := by decide +kernel
theorem dX9_law_92 : decode cX9_law 92 = .ok (.i2l, 1) := by decide +kernel
theorem dX9_law_93 : decode cX9_law 93 = .ok (.invokevirtual 185, 3) := by decide +kernel
theorem dX9_law_96 : decode cX9_law 96 = .ok (.iload_n 2, 1) := by decide +kernel
theorem dX9_law_97 : decode cX9_law 97 = .ok (.iload_n 3, 1) := by decide +kernel
theorem dX9_law_98 : decode cX9_law 98 = .ok (.isub, 1) := by decide +kernel
theorem dX9_law_99 : decode cX9_law 99 = .ok (.ireturn, 1) := by decide +kernel
theorem dX9_rests_0 : decode cX9_rests 0 = .ok (.iload_n 1, 1) := by decide +kernel
theorem dX9_rests_1 : decode cX9_rests 1 = .ok (.iconst 0, 1) := by decide +kernel
theorem dX9_rests_2 : decode cX9_rests 2 = .ok (.bipush 9, 2) := by decide +kernel
theorem dX9_rests_4 : decode cX9_rests 4 = .ok (.invokestatic 140, 3) := by decide +kernel
theorem dX9_rests_7 : decode cX9_rests 7 = .ok (.ifCond .ne 5, 3) := by decide +kernel
theorem dX9_rests_10 : decode cX9_rests 10 = .ok (.iconst (-1), 1) := by decide +kernel
theorem dX9_rests_11 : decode cX9_rests 11 = .ok (.ireturn, 1) := by decide +kernel
theorem dX9_rests_12 : decode cX9_rests 12 = .ok (.aload_n 0, 1) := by decide +kernel
theorem dX9_rests_13 : decode cX9_rests 13 = .ok (.getfield 19, 3) := by decide +kernel
theorem dX9_rests_16 : decode cX9_rests 16 = .ok (.invokevirtual 285, 3) := by decide +kernel
theorem dX9_rests_19 : decode cX9_rests 19 = .ok (.iconst 0, 1) := by decide +kernel
theorem dX9_rests_20 : decode cX9_rests 20 = .ok (.istore_n 2, 1) := by decide +kernel
theorem dX9_rests_21 : decode cX9_rests 21 = .ok (.iconst 0, 1) := by decide +kernel
theorem dX9_rests_22 : decode cX9_rests 22 = .ok (.istore_n 3, 1) := by decide +kernel
theorem dX9_rests_23 : decode cX9_rests 23 = .ok (.iload_n 3, 1) := by decide +kernel
theorem dX9_rests_24 : decode cX9_rests 24 = .ok (.bipush 9, 2) := by decide +kernel
theorem dX9_rests_26 : decode cX9_rests 26 = .ok (.if_icmp .gt 64, 3) := by decide +kernel
theorem dX9_rests_29 : decode cX9_rests 29 = .ok (.iconst 0, 1) := by decide +kernel
theorem dX9_rests_30 : decode cX9_rests 30 = .ok (.istore 4, 2) := by decide +kernel
theorem dX9_rests_32 : decode cX9_rests 32 = .ok (.iload 4, 2) := by decide +kernel
theorem dX9_rests_34 : decode cX9_rests 34 = .ok (.bipush 9, 2) := by decide +kernel
theorem dX9_rests_36 : decode cX9_rests 36 = .ok (.if_icmp .gt 48, 3) := by decide +kernel
theorem dX9_rests_39 : decode cX9_rests 39 = .ok (.iload_n 3, 1) := by decide +kernel
theorem dX9_rests_40 : decode cX9_rests 40 = .ok (.iload 4, 2) := by decide +kernel
theorem dX9_rests_42 : decode cX9_rests 42 = .ok (.iload_n 1, 1) := by decide +kernel
theorem dX9_rests_43 : decode cX9_rests 43 = .ok (.invokestatic 390, 3) := by decide +kernel
theorem dX9_rests_46 : decode cX9_rests 46 = .ok (.ifCond .eq 32, 3) := by decide +kernel
theorem dX9_rests_49 : decode cX9_rests 49 = .ok (.iload 4, 2) := by decide +kernel
theorem dX9_rests_51 : decode cX9_rests 51 = .ok (.iload_n 3, 1) := by decide +kernel
theorem dX9_rests_52 : decode cX9_rests 52 = .ok (.iload_n 1, 1) := by decide +kernel
theorem dX9_rests_53 : decode cX9_rests 53 = .ok (.invokestatic 390, 3) := by decide +kernel
theorem dX9_rests_56 : decode cX9_rests 56 = .ok (.ifCond .eq 22, 3) := by decide +kernel
theorem dX9_rests_59 : decode cX9_rests 59 = .ok (.iload_n 2, 1) := by decide +kernel
theorem dX9_rests_60 : decode cX9_rests 60 = .ok (.ifCond .ne 15, 3) := by decide +kernel
theorem dX9_rests_63 : decode cX9_rests 63 = .ok (.aload_n 0, 1) := by decide +kernel
theorem dX9_rests_64 : decode cX9_rests 64 = .ok (.getfield 19, 3) := by decide +kernel
theorem dX9_rests_67 : decode cX9_rests 67 = .ok (.iload_n 3, 1) := by decide +kernel
theorem dX9_rests_68 : decode cX9_rests 68 = .ok (.i2l, 1) := by decide +kernel
theorem dX9_rests_69 : decode cX9_rests 69 = .ok (.iload 4, 2) := by decide +kernel
theorem dX9_rests_71 : decode cX9_rests 71 = .ok (.i2l, 1) := by decide +kernel
theorem dX9_rests_72 : decode cX9_rests 72 = .ok (.invokevirtual 185, 3) := by decide +kernel
theorem dX9_rests_75 : decode cX9_rests 75 = .ok (.iinc 2 1, 3) := by decide +kernel
theorem dX9_rests_78 : decode cX9_rests 78 = .ok (.iinc 4 1, 3) := by decide +kernel
theorem dX9_rests_81 : decode cX9_rests 81 = .ok (.goto (-49), 3) := by decide +kernel
theorem dX9_rests_84 : decode cX9_rests 84 = .ok (.iinc 3 1, 3) := by decide +kernel
theorem dX9_rests_87 : decode cX9_rests 87 = .ok (.goto (-64), 3) := by decide +kernel
theorem dX9_rests_90 : decode cX9_rests 90 = .ok (.iload_n 2, 1) := by decide +kernel
theorem dX9_rests_91 : decode cX9_rests 91 = .ok (.ireturn, 1) := by decide +kernel
theorem dX9_isBestAgainst_0 : decode cX9_isBestAgainst 0 = .ok (.iload_n 0, 1) := by decide +kernel
theorem dX9_isBestAgainst_1 : decode cX9_isBestAgainst 1 = .ok (.iload_n 1, 1) := by decide +kernel
theorem dX9_isBestAgainst_2 : decode cX9_isBestAgainst 2 = .ok (.iload_n 2, 1) := by decide +kernel
theorem dX9_isBestAgainst_3 : decode cX9_isBestAgainst 3 = .ok (.invokestatic 393, 3) := by decide +kernel
theorem dX9_isBestAgainst_6 : decode cX9_isBestAgainst 6 = .ok (.istore_n 3, 1) := by decide +kernel
theorem dX9_isBestAgainst_7 : decode cX9_isBestAgainst 7 = .ok (.iconst 0, 1) := by decide +kernel
theorem dX9_isBestAgainst_8 : decode cX9_isBestAgainst 8 = .ok (.istore 4, 2) := by decide +kernel
theorem dX9_isBestAgainst_10 : decode cX9_isBestAgainst 10 = .ok (.iload 4, 2) := by decide +kernel
theorem dX9_isBestAgainst_12 : decode cX9_isBestAgainst 12 = .ok (.bipush 9, 2) := by decide +kernel
theorem dX9_isBestAgainst_14 : decode cX9_isBestAgainst 14 = .ok (.if_icmp .gt 22, 3) := by decide +kernel
theorem dX9_isBestAgainst_17 : decode cX9_isBestAgainst 17 = .ok (.iload 4, 2) := by decide +kernel
theorem dX9_isBestAgainst_19 : decode cX9_isBestAgainst 19 = .ok (.iload_n 1, 1) := by decide +kernel
theorem dX9_isBestAgainst_20 : decode cX9_isBestAgainst 20 = .ok (.iload_n 2, 1) := by decide +kernel
theorem dX9_isBestAgainst_21 : decode cX9_isBestAgainst 21 = .ok (.invokestatic 393, 3) := by decide +kernel
theorem dX9_isBestAgainst_24 : decode cX9_isBestAgainst 24 = .ok (.iload_n 3, 1) := by decide +kernel
theorem dX9_isBestAgainst_25 : decode cX9_isBestAgainst 25 = .ok (.if_icmp .le 5, 3) := by decide +kernel
theorem dX9_isBestAgainst_28 : decode cX9_isBestAgainst 28 = .ok (.iconst 0, 1) := by decide +kernel
theorem dX9_isBestAgainst_29 : decode cX9_isBestAgainst 29 = .ok (.ireturn, 1) := by decide +kernel
theorem dX9_isBestAgainst_30 : decode cX9_isBestAgainst 30 = .ok (.iinc 4 1, 3) := by decide +kernel
theorem dX9_isBestAgainst_33 : decode cX9_isBestAgainst 33 = .ok (.goto (-23), 3) := by decide +kernel
theorem dX9_isBestAgainst_36 : decode cX9_isBestAgainst 36 = .ok (.iconst 1, 1) := by decide +kernel
theorem dX9_isBestAgainst_37 : decode cX9_isBestAgainst 37 = .ok (.ireturn, 1) := by decide +kernel
theorem dX9_baskets_0 : decode cX9_baskets 0 = .ok (.bipush 18, 2) := by decide +kernel
theorem dX9_baskets_2 : decode cX9_baskets 2 = .ok (.iload_n 0, 1) := by decide +kernel
theorem dX9_baskets_3 : decode cX9_baskets 3 = .ok (.isub, 1) := by decide +kernel
theorem dX9_baskets_4 : decode cX9_baskets 4 = .ok (.iload_n 1, 1) := by decide +kernel
theorem dX9_baskets_5 : decode cX9_baskets 5 = .ok (.isub, 1) := by decide +kernel
theorem dX9_baskets_6 : decode cX9_baskets 6 = .ok (.istore_n 3, 1) := by decide +kernel
theorem dX9_baskets_7 : decode cX9_baskets 7 = .ok (.iload_n 0, 1) := by decide +kernel
theorem dX9_baskets_8 : decode cX9_baskets 8 = .ok (.iload_n 2, 1) := by decide +kernel
theorem dX9_baskets_9 : decode cX9_baskets 9 = .ok (.iload_n 3, 1) := by decide +kernel
theorem dX9_baskets_10 : decode cX9_baskets 10 = .ok (.iconst 2, 1) := by decide +kernel
theorem dX9_baskets_11 : decode cX9_baskets 11 = .ok (.idiv, 1) := by decide +kernel
theorem dX9_baskets_12 : decode cX9_baskets 12 = .ok (.isub, 1) := by decide +kernel
theorem dX9_baskets_13 : decode cX9_baskets 13 = .ok (.imul, 1) := by decide +kernel
theorem dX9_baskets_14 : decode cX9_baskets 14 = .ok (.bipush 9, 2) := by decide +kernel
theorem dX9_baskets_16 : decode cX9_baskets 16 = .ok (.iload_n 0, 1) := by decide +kernel
theorem dX9_baskets_17 : decode cX9_baskets 17 = .ok (.isub, 1) := by decide +kernel
theorem dX9_baskets_18 : decode cX9_baskets 18 = .ok (.iconst 2, 1) := by decide +kernel
theorem dX9_baskets_19 : decode cX9_baskets 19 = .ok (.imul, 1) := by decide +kernel
theorem dX9_baskets_20 : decode cX9_baskets 20 = .ok (.iadd, 1) := by decide +kernel
theorem dX9_baskets_21 : decode cX9_baskets 21 = .ok (.ireturn, 1) := by decide +kernel
theorem dX9_years_0 : decode cX9_years 0 = .ok (.iload_n 2, 1) := by decide +kernel
theorem dX9_years_1 : decode cX9_years 1 = .ok (.iconst 1, 1) := by decide +kernel
theorem dX9_years_2 : decode cX9_years 2 = .ok (.bipush 60, 2) := by decide +kernel
theorem dX9_years_4 : decode cX9_years 4 = .ok (.invokestatic 140, 3) := by decide +kernel
theorem dX9_years_7 : decode cX9_years 7 = .ok (.ifCond .ne 5, 3) := by decide +kernel
theorem dX9_years_10 : decode cX9_years 10 = .ok (.iconst (-1), 1) := by decide +kernel
theorem dX9_years_11 : decode cX9_years 11 = .ok (.ireturn, 1) := by decide +kernel
theorem dX9_years_12 : decode cX9_years 12 = .ok (.aload_n 0, 1) := by decide +kernel
theorem dX9_years_13 : decode cX9_years 13 = .ok (.getfield 77, 3) := by decide +kernel
theorem dX9_years_16 : decode cX9_years 16 = .ok (.iload_n 1, 1) := by decide +kernel
theorem dX9_years_17 : decode cX9_years 17 = .ok (.invokevirtual 396, 3) := by decide +kernel
theorem dX9_years_20 : decode cX9_years 20 = .ok (.aload_n 0, 1) := by decide +kernel
theorem dX9_years_21 : decode cX9_years 21 = .ok (.getfield 33, 3) := by decide +kernel
theorem dX9_years_24 : decode cX9_years 24 = .ok (.aload_n 0, 1) := by decide +kernel
theorem dX9_years_25 : decode cX9_years 25 = .ok (.getfield 26, 3) := by decide +kernel
theorem dX9_years_28 : decode cX9_years 28 = .ok (.invokevirtual 175, 3) := by decide +kernel
theorem dX9_years_31 : decode cX9_years 31 = .ok (.iconst 0, 1) := by decide +kernel
theorem dX9_years_32 : decode cX9_years 32 = .ok (.istore_n 3, 1) := by decide +kernel
theorem dX9_years_33 : decode cX9_years 33 = .ok (.iload_n 3, 1) := by decide +kernel
theorem dX9_years_34 : decode cX9_years 34 = .ok (.iload_n 2, 1) := by decide +kernel
theorem dX9_years_35 : decode cX9_years 35 = .ok (.if_icmp .ge 13, 3) := by decide +kernel
theorem dX9_years_38 : decode cX9_years 38 = .ok (.aload_n 0, 1) := by decide +kernel
theorem dX9_years_39 : decode cX9_years 39 = .ok (.invokevirtual 399, 3) := by decide +kernel
theorem dX9_years_42 : decode cX9_years 42 = .ok (.iinc 3 1, 3) := by decide +kernel
theorem dX9_years_45 : decode cX9_years 45 = .ok (.goto (-12), 3) := by decide +kernel
theorem dX9_years_48 : decode cX9_years 48 = .ok (.aload_n 0, 1) := by decide +kernel
theorem dX9_years_49 : decode cX9_years 49 = .ok (.getfield 19, 3) := by decide +kernel
theorem dX9_years_52 : decode cX9_years 52 = .ok (.aload_n 0, 1) := by decide +kernel
theorem dX9_years_53 : decode cX9_years 53 = .ok (.getfield 33, 3) := by decide +kernel
theorem dX9_years_56 : decode cX9_years 56 = .ok (.iconst 0, 1) := by decide +kernel
theorem dX9_years_57 : decode cX9_years 57 = .ok (.invokevirtual 402, 3) := by decide +kernel
theorem dX9_years_60 : decode cX9_years 60 = .ok (.i2l, 1) := by decide +kernel
theorem dX9_years_61 : decode cX9_years 61 = .ok (.aload_n 0, 1) := by decide +kernel
theorem dX9_years_62 : decode cX9_years 62 = .ok (.getfield 33, 3) := by decide +kernel
theorem dX9_years_65 : decode cX9_years 65 = .ok (.iconst 1, 1) := by decide +kernel
theorem dX9_years_66 : decode cX9_years 66 = .ok (.invokevirtual 402, 3) := by decide +kernel
theorem dX9_years_69 : decode cX9_years 69 = .ok (.i2l, 1) := by decide +kernel
theorem dX9_years_70 : decode cX9_years 70 = .ok (.invokevirtual 185, 3) := by decide +kernel
theorem dX9_years_73 : decode cX9_years 73 = .ok (.aload_n 0, 1) := by decide +kernel
theorem dX9_years_74 : decode cX9_years 74 = .ok (.getfield 33, 3) := by decide +kernel
theorem dX9_years_77 : decode cX9_years 77 = .ok (.getfield 237, 3) := by decide +kernel
theorem dX9_years_80 : decode cX9_years 80 = .ok (.ireturn, 1) := by decide +kernel
theorem dX9_drawAct_0 : decode cX9_drawAct 0 = .ok (.aload_n 0, 1) := by decide +kernel
theorem dX9_drawAct_1 : decode cX9_drawAct 1 = .ok (.getfield 77, 3) := by decide +kernel
theorem dX9_drawAct_4 : decode cX9_drawAct 4 = .ok (.iconst 5, 1) := by decide +kernel
theorem dX9_drawAct_5 : decode cX9_drawAct 5 = .ok (.invokevirtual 405, 3) := by decide +kernel
theorem dX9_drawAct_8 : decode cX9_drawAct 8 = .ok (.istore_n 1, 1) := by decide +kernel
theorem dX9_drawAct_9 : decode cX9_drawAct 9 = .ok (.iload_n 1, 1) := by decide +kernel
theorem dX9_drawAct_10 : decode cX9_drawAct 10 = .ok (.iconst 1, 1) := by decide +kernel
theorem dX9_drawAct_11 : decode cX9_drawAct 11 = .ok (.if_icmp .gt 19, 3) := by decide +kernel
theorem dX9_drawAct_14 : decode cX9_drawAct 14 = .ok (.aload_n 0, 1) := by decide +kernel
theorem dX9_drawAct_15 : decode cX9_drawAct 15 = .ok (.getfield 33, 3) := by decide +kernel
theorem dX9_drawAct_18 : decode cX9_drawAct 18 = .ok (.aload_n 0, 1) := by decide +kernel
theorem dX9_drawAct_19 : decode cX9_drawAct 19 = .ok (.getfield 84, 3) := by decide +kernel
theorem dX9_drawAct_22 : decode cX9_drawAct 22 = .ok (.iconst 1, 1) := by decide +kernel
theorem dX9_drawAct_23 : decode cX9_drawAct 23 = .ok (.invokevirtual 179, 3) := by decide +kernel
theorem dX9_drawAct_26 : decode cX9_drawAct 26 = .ok (.pop, 1) := by decide +kernel
theorem dX9_drawAct_27 : decode cX9_drawAct 27 = .ok (.goto 81, 3) := by decide +kernel
theorem dX9_drawAct_30 : decode cX9_drawAct 30 = .ok (.iload_n 1, 1) := by decide +kernel
theorem dX9_drawAct_31 : decode cX9_drawAct 31 = .ok (.iconst 4, 1) := by decide +kernel
theorem dX9_drawAct_32 : decode cX9_drawAct 32 = .ok (.if_icmp .ne 14, 3) := by decide +kernel
theorem dX9_drawAct_35 : decode cX9_drawAct 35 = .ok (.aload_n 0, 1) := by decide +kernel
theorem dX9_drawAct_36 : decode cX9_drawAct 36 = .ok (.getfield 33, 3) := by decide +kernel
theorem dX9_drawAct_39 : decode cX9_drawAct 39 = .ok (.invokevirtual 208, 3) := by decide +kernel
theorem dX9_drawAct_42 : decode cX9_drawAct 42 = .ok (.pop, 1) := by decide +kernel
theorem dX9_drawAct_43 : decode cX9_drawAct 43 = .ok (.goto 65, 3) := by decide +kernel
theorem dX9_drawAct_46 : decode cX9_drawAct 46 = .ok (.aload_n 0, 1) := by decide +kernel
theorem dX9_drawAct_47 : decode cX9_drawAct 47 = .ok (.getfield 33, 3) := by decide +kernel
theorem dX9_drawAct_50 : decode cX9_drawAct 50 = .ok (.getfield 47, 3) := by decide +kernel
theorem dX9_drawAct_53 : decode cX9_drawAct 53 = .ok (.ifCond .le 55, 3) := by decide +kernel
theorem dX9_drawAct_56 : decode cX9_drawAct 56 = .ok (.aload_n 0, 1) := by decide +kernel
theorem dX9_drawAct_57 : decode cX9_drawAct 57 = .ok (.getfield 77, 3) := by decide +kernel
theorem dX9_drawAct_60 : decode cX9_drawAct 60 = .ok (.aload_n 0, 1) := by decide +kernel
theorem dX9_drawAct_61 : decode cX9_drawAct 61 = .ok (.getfield 33, 3) := by decide +kernel
theorem dX9_drawAct_64 : decode cX9_drawAct 64 = .ok (.getfield 47, 3) := by decide +kernel
theorem dX9_drawAct_67 : decode cX9_drawAct 67 = .ok (.invokevirtual 405, 3) := by decide +kernel
theorem dX9_drawAct_70 : decode cX9_drawAct 70 = .ok (.istore_n 2, 1) := by decide +kernel
theorem dX9_drawAct_71 : decode cX9_drawAct 71 = .ok (.iload_n 1, 1) := by decide +kernel
theorem dX9_drawAct_72 : decode cX9_drawAct 72 = .ok (.iconst 2, 1) := by decide +kernel
theorem dX9_drawAct_73 : decode cX9_drawAct 73 = .ok (.if_icmp .ne 16, 3) := by decide +kernel
theorem dX9_drawAct_76 : decode cX9_drawAct 76 = .ok (.aload_n 0, 1) := by decide +kernel
theorem dX9_drawAct_77 : decode cX9_drawAct 77 = .ok (.getfield 33, 3) := by decide +kernel
theorem dX9_drawAct_80 : decode cX9_drawAct 80 = .ok (.iload_n 2, 1) := by decide +kernel
theorem dX9_drawAct_81 : decode cX9_drawAct 81 = .ok (.iconst 1, 1) := by decide +kernel
theorem dX9_drawAct_82 : decode cX9_drawAct 82 = .ok (.invokevirtual 202, 3) := by decide +kernel
theorem dX9_drawAct_85 : decode cX9_drawAct 85 = .ok (.pop, 1) := by decide +kernel
theorem dX9_drawAct_86 : decode cX9_drawAct 86 = .ok (.goto 22, 3) := by decide +kernel
theorem dX9_drawAct_89 : decode cX9_drawAct 89 = .ok (.aload_n 0, 1) := by decide +kernel
theorem dX9_drawAct_90 : decode cX9_drawAct 90 = .ok (.getfield 33, 3) := by decide +kernel
theorem dX9_drawAct_93 : decode cX9_drawAct 93 = .ok (.iload_n 2, 1) := by decide +kernel
theorem dX9_drawAct_94 : decode cX9_drawAct 94 = .ok (.iconst 1, 1) := by decide +kernel
theorem dX9_drawAct_95 : decode cX9_drawAct 95 = .ok (.aload_n 0, 1) := by decide +kernel
theorem dX9_drawAct_96 : decode cX9_drawAct 96 = .ok (.getfield 77, 3) := by decide +kernel
theorem dX9_drawAct_99 : decode cX9_drawAct 99 = .ok (.bipush 100, 2) := by decide +kernel
theorem dX9_drawAct_101 : decode cX9_drawAct 101 = .ok (.invokevirtual 405, 3) := by decide +kernel
theorem dX9_drawAct_104 : decode cX9_drawAct 104 = .ok (.invokevirtual 408, 3) := by decide +kernel
theorem dX9_drawAct_107 : decode cX9_drawAct 107 = .ok (.pop, 1) := by decide +kernel
theorem dX9_drawAct_108 : decode cX9_drawAct 108 = .ok (.return_, 1) := by decide +kernel
theorem dX9_keep_0 : decode cX9_keep 0 = .ok (.iload_n 1, 1) := by decide +kernel
theorem dX9_keep_1 : decode cX9_keep 1 = .ok (.iconst 0, 1) := by decide +kernel
theorem dX9_keep_2 : decode cX9_keep 2 = .ok (.aload_n 0, 1) := by decide +kernel
theorem dX9_keep_3 : decode cX9_keep 3 = .ok (.getfield 43, 3) := by decide +kernel
theorem dX9_keep_6 : decode cX9_keep 6 = .ok (.arraylength, 1) := by decide +kernel
theorem dX9_keep_7 : decode cX9_keep 7 = .ok (.iconst 1, 1) := by decide +kernel
theorem dX9_keep_8 : decode cX9_keep 8 = .ok (.isub, 1) := by decide +kernel
theorem dX9_keep_9 : decode cX9_keep 9 = .ok (.invokestatic 140, 3) := by decide +kernel
theorem dX9_keep_12 : decode cX9_keep 12 = .ok (.ifCond .ne 5, 3) := by decide +kernel
theorem dX9_keep_15 : decode cX9_keep 15 = .ok (.iconst 0, 1) := by decide +kernel
theorem dX9_keep_16 : decode cX9_keep 16 = .ok (.ireturn, 1) := by decide +kernel
theorem dX9_keep_17 : decode cX9_keep 17 = .ok (.aload_n 0, 1) := by decide +kernel
theorem dX9_keep_18 : decode cX9_keep 18 = .ok (.getfield 43, 3) := by decide +kernel
theorem dX9_keep_21 : decode cX9_keep 21 = .ok (.iload_n 1, 1) := by decide +kernel
theorem dX9_keep_22 : decode cX9_keep 22 = .ok (.aaload, 1) := by decide +kernel
theorem dX9_keep_23 : decode cX9_keep 23 = .ok (.aload_n 0, 1) := by decide +kernel
theorem dX9_keep_24 : decode cX9_keep 24 = .ok (.getfield 26, 3) := by decide +kernel
theorem dX9_keep_27 : decode cX9_keep 27 = .ok (.invokevirtual 175, 3) := by decide +kernel
theorem dX9_keep_30 : decode cX9_keep 30 = .ok (.iconst 1, 1) := by decide +kernel
theorem dX9_keep_31 : decode cX9_keep 31 = .ok (.ireturn, 1) := by decide +kernel
theorem dX9_again_0 : decode cX9_again 0 = .ok (.iload_n 1, 1) := by decide +kernel
theorem dX9_again_1 : decode cX9_again 1 = .ok (.iconst 0, 1) := by decide +kernel
theorem dX9_again_2 : decode cX9_again 2 = .ok (.aload_n 0, 1) := by decide +kernel
theorem dX9_again_3 : decode cX9_again 3 = .ok (.getfield 43, 3) := by decide +kernel
theorem dX9_again_6 : decode cX9_again 6 = .ok (.arraylength, 1) := by decide +kernel
theorem dX9_again_7 : decode cX9_again 7 = .ok (.iconst 1, 1) := by decide +kernel
theorem dX9_again_8 : decode cX9_again 8 = .ok (.isub, 1) := by decide +kernel
theorem dX9_again_9 : decode cX9_again 9 = .ok (.invokestatic 140, 3) := by decide +kernel
theorem dX9_again_12 : decode cX9_again 12 = .ok (.ifCond .eq 22, 3) := by decide +kernel
theorem dX9_again_15 : decode cX9_again 15 = .ok (.aload_n 0, 1) := by decide +kernel
theorem dX9_again_16 : decode cX9_again 16 = .ok (.getfield 43, 3) := by decide +kernel
theorem dX9_again_19 : decode cX9_again 19 = .ok (.iload_n 1, 1) := by decide +kernel
theorem dX9_again_20 : decode cX9_again 20 = .ok (.aaload, 1) := by decide +kernel
theorem dX9_again_21 : decode cX9_again 21 = .ok (.getfield 47, 3) := by decide +kernel
theorem dX9_again_24 : decode cX9_again 24 = .ok (.aload_n 0, 1) := by decide +kernel
theorem dX9_again_25 : decode cX9_again 25 = .ok (.getfield 26, 3) := by decide +kernel
theorem dX9_again_28 : decode cX9_again 28 = .ok (.getfield 47, 3) := by decide +kernel
theorem dX9_again_31 : decode cX9_again 31 = .ok (.if_icmp .eq 5, 3) := by decide +kernel
theorem dX9_again_34 : decode cX9_again 34 = .ok (.iconst 0, 1) := by decide +kernel
theorem dX9_again_35 : decode cX9_again 35 = .ok (.ireturn, 1) := by decide +kernel
theorem dX9_again_36 : decode cX9_again 36 = .ok (.aload_n 0, 1) := by decide +kernel
theorem dX9_again_37 : decode cX9_again 37 = .ok (.getfield 26, 3) := by decide +kernel
theorem dX9_again_40 : decode cX9_again 40 = .ok (.aload_n 0, 1) := by decide +kernel
theorem dX9_again_41 : decode cX9_again 41 = .ok (.getfield 43, 3) := by decide +kernel
theorem dX9_again_44 : decode cX9_again 44 = .ok (.iload_n 1, 1) := by decide +kernel
theorem dX9_again_45 : decode cX9_again 45 = .ok (.aaload, 1) := by decide +kernel
theorem dX9_again_46 : decode cX9_again 46 = .ok (.invokevirtual 175, 3) := by decide +kernel
theorem dX9_again_49 : decode cX9_again 49 = .ok (.aload_n 0, 1) := by decide +kernel
theorem dX9_again_50 : decode cX9_again 50 = .ok (.getfield 39, 3) := by decide +kernel
theorem dX9_again_53 : decode cX9_again 53 = .ok (.invokevirtual 126, 3) := by decide +kernel
theorem dX9_again_56 : decode cX9_again 56 = .ok (.iconst 1, 1) := by decide +kernel
theorem dX9_again_57 : decode cX9_again 57 = .ok (.ireturn, 1) := by decide +kernel
theorem dX9_count_0 : decode cX9_count 0 = .ok (.iload_n 1, 1) := by decide +kernel
theorem dX9_count_1 : decode cX9_count 1 = .ok (.tableswitch 181 0 12 #[67, 75, 83, 91, 99, 107, 123, 132, 141, 149, 157, 165, 173], 67) := by decide +kernel
theorem dX9_count_68 : decode cX9_count 68 = .ok (.aload_n 0, 1) := by decide +kernel
theorem dX9_count_69 : decode cX9_count 69 = .ok (.getfield 26, 3) := by decide +kernel
theorem dX9_count_72 : decode cX9_count 72 = .ok (.getfield 47, 3) := by decide +kernel
theorem dX9_count_75 : decode cX9_count 75 = .ok (.ireturn, 1) := by decide +kernel
theorem dX9_count_76 : decode cX9_count 76 = .ok (.aload_n 0, 1) := by decide +kernel
theorem dX9_count_77 : decode cX9_count 77 = .ok (.getfield 84, 3) := by decide +kernel
theorem dX9_count_80 : decode cX9_count 80 = .ok (.getfield 135, 3) := by decide +kernel
theorem dX9_count_83 : decode cX9_count 83 = .ok (.ireturn, 1) := by decide +kernel
theorem dX9_count_84 : decode cX9_count 84 = .ok (.aload_n 0, 1) := by decide +kernel
theorem dX9_count_85 : decode cX9_count 85 = .ok (.getfield 26, 3) := by decide +kernel
theorem dX9_count_88 : decode cX9_count 88 = .ok (.getfield 352, 3) := by decide +kernel
theorem dX9_count_91 : decode cX9_count 91 = .ok (.ireturn, 1) := by decide +kernel
theorem dX9_count_92 : decode cX9_count 92 = .ok (.aload_n 0, 1) := by decide +kernel
theorem dX9_count_93 : decode cX9_count 93 = .ok (.getfield 26, 3) := by decide +kernel
theorem dX9_count_96 : decode cX9_count 96 = .ok (.getfield 410, 3) := by decide +kernel
theorem dX9_count_99 : decode cX9_count 99 = .ok (.ireturn, 1) := by decide +kernel
theorem dX9_count_100 : decode cX9_count 100 = .ok (.aload_n 0, 1) := by decide +kernel
theorem dX9_count_101 : decode cX9_count 101 = .ok (.getfield 26, 3) := by decide +kernel
theorem dX9_count_104 : decode cX9_count 104 = .ok (.getfield 237, 3) := by decide +kernel
theorem dX9_count_107 : decode cX9_count 107 = .ok (.ireturn, 1) := by decide +kernel
theorem dX9_count_108 : decode cX9_count 108 = .ok (.aload_n 0, 1) := by decide +kernel
theorem dX9_count_109 : decode cX9_count 109 = .ok (.getfield 26, 3) := by decide +kernel
theorem dX9_count_112 : decode cX9_count 112 = .ok (.getfield 317, 3) := by decide +kernel
theorem dX9_count_115 : decode cX9_count 115 = .ok (.ifCond .eq 7, 3) := by decide +kernel
theorem dX9_count_118 : decode cX9_count 118 = .ok (.iconst 1, 1) := by decide +kernel
theorem dX9_count_119 : decode cX9_count 119 = .ok (.goto 4, 3) := by decide +kernel
theorem dX9_count_122 : decode cX9_count 122 = .ok (.iconst 0, 1) := by decide +kernel
theorem dX9_count_123 : decode cX9_count 123 = .ok (.ireturn, 1) := by decide +kernel
theorem dX9_count_124 : decode cX9_count 124 = .ok (.aload_n 0, 1) := by decide +kernel
theorem dX9_count_125 : decode cX9_count 125 = .ok (.getfield 26, 3) := by decide +kernel
theorem dX9_count_128 : decode cX9_count 128 = .ok (.iconst 0, 1) := by decide +kernel
theorem dX9_count_129 : decode cX9_count 129 = .ok (.invokevirtual 402, 3) := by decide +kernel
theorem dX9_count_132 : decode cX9_count 132 = .ok (.ireturn, 1) := by decide +kernel
theorem dX9_count_133 : decode cX9_count 133 = .ok (.aload_n 0, 1) := by decide +kernel
theorem dX9_count_134 : decode cX9_count 134 = .ok (.getfield 26, 3) := by decide +kernel
theorem dX9_count_137 : decode cX9_count 137 = .ok (.iconst 1, 1) := by decide +kernel
theorem dX9_count_138 : decode cX9_count 138 = .ok (.invokevirtual 402, 3) := by decide +kernel
theorem dX9_count_141 : decode cX9_count 141 = .ok (.ireturn, 1) := by decide +kernel
theorem dX9_count_142 : decode cX9_count 142 = .ok (.aload_n 0, 1) := by decide +kernel
theorem dX9_count_143 : decode cX9_count 143 = .ok (.getfield 26, 3) := by decide +kernel
theorem dX9_count_146 : decode cX9_count 146 = .ok (.invokevirtual 413, 3) := by decide +kernel
theorem dX9_count_149 : decode cX9_count 149 = .ok (.ireturn, 1) := by decide +kernel
theorem dX9_count_150 : decode cX9_count 150 = .ok (.aload_n 0, 1) := by decide +kernel
theorem dX9_count_151 : decode cX9_count 151 = .ok (.getfield 70, 3) := by decide +kernel
theorem dX9_count_154 : decode cX9_count 154 = .ok (.getfield 367, 3) := by decide +kernel
theorem dX9_count_157 : decode cX9_count 157 = .ok (.ireturn, 1) := by decide +kernel
theorem dX9_count_158 : decode cX9_count 158 = .ok (.aload_n 0, 1) := by decide +kernel
theorem dX9_count_159 : decode cX9_count 159 = .ok (.getfield 39, 3) := by decide +kernel
theorem dX9_count_162 : decode cX9_count 162 = .ok (.getfield 278, 3) := by decide +kernel
theorem dX9_count_165 : decode cX9_count 165 = .ok (.ireturn, 1) := by decide +kernel
theorem dX9_count_166 : decode cX9_count 166 = .ok (.aload_n 0, 1) := by decide +kernel
theorem dX9_count_167 : decode cX9_count 167 = .ok (.getfield 19, 3) := by decide +kernel
theorem dX9_count_170 : decode cX9_count 170 = .ok (.getfield 416, 3) := by decide +kernel
theorem dX9_count_173 : decode cX9_count 173 = .ok (.ireturn, 1) := by decide +kernel
theorem dX9_count_174 : decode cX9_count 174 = .ok (.aload_n 0, 1) := by decide +kernel
theorem dX9_count_175 : decode cX9_count 175 = .ok (.getfield 10, 3) := by decide +kernel
theorem dX9_count_178 : decode cX9_count 178 = .ok (.getfield 105, 3) := by decide +kernel
theorem dX9_count_181 : decode cX9_count 181 = .ok (.ireturn, 1) := by decide +kernel
theorem dX9_count_182 : decode cX9_count 182 = .ok (.bipush (-100), 2) := by decide +kernel
theorem dX9_count_184 : decode cX9_count 184 = .ok (.ireturn, 1) := by decide +kernel
theorem dX9_row_0 : decode cX9_row 0 = .ok (.iload_n 1, 1) := by decide +kernel
theorem dX9_row_1 : decode cX9_row 1 = .ok (.iconst 0, 1) := by decide +kernel
theorem dX9_row_2 : decode cX9_row 2 = .ok (.aload_n 0, 1) := by decide +kernel
theorem dX9_row_3 : decode cX9_row 3 = .ok (.getfield 19, 3) := by decide +kernel
theorem dX9_row_6 : decode cX9_row 6 = .ok (.getfield 416, 3) := by decide +kernel
theorem dX9_row_9 : decode cX9_row 9 = .ok (.iconst 1, 1) := by decide +kernel
theorem dX9_row_10 : decode cX9_row 10 = .ok (.isub, 1) := by decide +kernel
theorem dX9_row_11 : decode cX9_row 11 = .ok (.invokestatic 140, 3) := by decide +kernel
theorem dX9_row_14 : decode cX9_row 14 = .ok (.ifCond .ne 11, 3) := by decide +kernel
theorem dX9_row_17 : decode cX9_row 17 = .ok (.new 144, 3) := by decide +kernel
theorem dX9_row_20 : decode cX9_row 20 = .ok (.dup, 1) := by decide +kernel
theorem dX9_row_21 : decode cX9_row 21 = .ok (.invokespecial 146, 3) := by decide +kernel
theorem dX9_row_24 : decode cX9_row 24 = .ok (.athrow, 1) := by decide +kernel
theorem dX9_row_25 : decode cX9_row 25 = .ok (.aload_n 0, 1) := by decide +kernel
theorem dX9_row_26 : decode cX9_row 26 = .ok (.getfield 19, 3) := by decide +kernel
theorem dX9_row_29 : decode cX9_row 29 = .ok (.getfield 417, 3) := by decide +kernel
theorem dX9_row_32 : decode cX9_row 32 = .ok (.iload_n 1, 1) := by decide +kernel
theorem dX9_row_33 : decode cX9_row 33 = .ok (.laload, 1) := by decide +kernel
theorem dX9_row_34 : decode cX9_row 34 = .ok (.lreturn, 1) := by decide +kernel
theorem dX9_within_0 : decode cX9_within 0 = .ok (.iload_n 0, 1) := by decide +kernel
theorem dX9_within_1 : decode cX9_within 1 = .ok (.iload_n 1, 1) := by decide +kernel
theorem dX9_within_2 : decode cX9_within 2 = .ok (.if_icmp .lt 12, 3) := by decide +kernel
theorem dX9_within_5 : decode cX9_within 5 = .ok (.iload_n 0, 1) := by decide +kernel
theorem dX9_within_6 : decode cX9_within 6 = .ok (.iload_n 2, 1) := by decide +kernel
theorem dX9_within_7 : decode cX9_within 7 = .ok (.if_icmp .gt 7, 3) := by decide +kernel
theorem dX9_within_10 : decode cX9_within 10 = .ok (.iconst 1, 1) := by decide +kernel
theorem dX9_within_11 : decode cX9_within 11 = .ok (.goto 4, 3) := by decide +kernel
theorem dX9_within_14 : decode cX9_within 14 = .ok (.iconst 0, 1) := by decide +kernel
theorem dX9_within_15 : decode cX9_within 15 = .ok (.ireturn, 1) := by decide +kernel
theorem dX9_put_0 : decode cX9_put 0 = .ok (.iload_n 1, 1) := by decide +kernel
theorem dX9_put_1 : decode cX9_put 1 = .ok (.iload_n 2, 1) := by decide +kernel
theorem dX9_put_2 : decode cX9_put 2 = .ok (.iload_n 0, 1) := by decide +kernel
theorem dX9_put_3 : decode cX9_put 3 = .ok (.invokestatic 240, 3) := by decide +kernel
theorem dX9_put_6 : decode cX9_put 6 = .ok (.invokestatic 232, 3) := by decide +kernel
theorem dX9_put_9 : decode cX9_put 9 = .ok (.ireturn, 1) := by decide +kernel
theorem dX9_isDigit_0 : decode cX9_isDigit 0 = .ok (.iload_n 0, 1) := by decide +kernel
theorem dX9_isDigit_1 : decode cX9_isDigit 1 = .ok (.bipush 48, 2) := by decide +kernel
theorem dX9_isDigit_3 : decode cX9_isDigit 3 = .ok (.if_icmp .lt 13, 3) := by decide +kernel
theorem dX9_isDigit_6 : decode cX9_isDigit 6 = .ok (.iload_n 0, 1) := by decide +kernel
theorem dX9_isDigit_7 : decode cX9_isDigit 7 = .ok (.bipush 57, 2) := by decide +kernel
theorem dX9_isDigit_9 : decode cX9_isDigit 9 = .ok (.if_icmp .gt 7, 3) := by decide +kernel
theorem dX9_isDigit_12 : decode cX9_isDigit 12 = .ok (.iconst 1, 1) := by decide +kernel
theorem dX9_isDigit_13 : decode cX9_isDigit 13 = .ok (.goto 4, 3) := by decide +kernel
theorem dX9_isDigit_16 : decode cX9_isDigit 16 = .ok (.iconst 0, 1) := by decide +kernel
theorem dX9_isDigit_17 : decode cX9_isDigit 17 = .ok (.ireturn, 1) := by decide +kernel
theorem dX9_isKind_0 : decode cX9_isKind 0 = .ok (.iload_n 0, 1) := by decide +kernel
theorem dX9_isKind_1 : decode cX9_isKind 1 = .ok (.ifCond .eq 8, 3) := by decide +kernel
theorem dX9_isKind_4 : decode cX9_isKind 4 = .ok (.iload_n 0, 1) := by decide +kernel
theorem dX9_isKind_5 : decode cX9_isKind 5 = .ok (.iconst 1, 1) := by decide +kernel
theorem dX9_isKind_6 : decode cX9_isKind 6 = .ok (.if_icmp .ne 7, 3) := by decide +kernel
theorem dX9_isKind_9 : decode cX9_isKind 9 = .ok (.iconst 1, 1) := by decide +kernel
theorem dX9_isKind_10 : decode cX9_isKind 10 = .ok (.goto 4, 3) := by decide +kernel
theorem dX9_isKind_13 : decode cX9_isKind 13 = .ok (.iconst 0, 1) := by decide +kernel
theorem dX9_isKind_14 : decode cX9_isKind 14 = .ok (.ireturn, 1) := by decide +kernel
theorem dX9_roundedUp_0 : decode cX9_roundedUp 0 = .ok (.iload_n 1, 1) := by decide +kernel
theorem dX9_roundedUp_1 : decode cX9_roundedUp 1 = .ok (.ifCond .gt 7, 3) := by decide +kernel
theorem dX9_roundedUp_4 : decode cX9_roundedUp 4 = .ok (.iconst 0, 1) := by decide +kernel
theorem dX9_roundedUp_5 : decode cX9_roundedUp 5 = .ok (.goto 10, 3) := by decide +kernel
theorem dX9_roundedUp_8 : decode cX9_roundedUp 8 = .ok (.iload_n 0, 1) := by decide +kernel
theorem dX9_roundedUp_9 : decode cX9_roundedUp 9 = .ok (.iload_n 1, 1) := by decide +kernel
theorem dX9_roundedUp_10 : decode cX9_roundedUp 10 = .ok (.iadd, 1) := by decide +kernel
theorem dX9_roundedUp_11 : decode cX9_roundedUp 11 = .ok (.iconst 1, 1) := by decide +kernel
theorem dX9_roundedUp_12 : decode cX9_roundedUp 12 = .ok (.isub, 1) := by decide +kernel
theorem dX9_roundedUp_13 : decode cX9_roundedUp 13 = .ok (.iload_n 1, 1) := by decide +kernel
theorem dX9_roundedUp_14 : decode cX9_roundedUp 14 = .ok (.idiv, 1) := by decide +kernel
theorem dX9_roundedUp_15 : decode cX9_roundedUp 15 = .ok (.ireturn, 1) := by decide +kernel
theorem dX10_thrown_0 : decode cX10_thrown 0 = .ok (.aload_n 0, 1) := by decide +kernel
theorem dX10_thrown_1 : decode cX10_thrown 1 = .ok (.getfield 3, 3) := by decide +kernel
theorem dX10_thrown_4 : decode cX10_thrown 4 = .ok (.ireturn, 1) := by decide +kernel
theorem dX10_refuse_0 : decode cX10_refuse 0 = .ok (.aload_n 0, 1) := by decide +kernel
theorem dX10_refuse_1 : decode cX10_refuse 1 = .ok (.iconst 1, 1) := by decide +kernel
theorem dX10_refuse_2 : decode cX10_refuse 2 = .ok (.putfield 3, 3) := by decide +kernel
theorem dX10_refuse_5 : decode cX10_refuse 5 = .ok (.iconst 0, 1) := by decide +kernel
theorem dX10_refuse_6 : decode cX10_refuse 6 = .ok (.ireturn, 1) := by decide +kernel
theorem dX10_in_0 : decode cX10_in 0 = .ok (.lload_n 0, 1) := by decide +kernel
theorem dX10_in_1 : decode cX10_in 1 = .ok (.lload_n 2, 1) := by decide +kernel
theorem dX10_in_2 : decode cX10_in 2 = .ok (.lcmp, 1) := by decide +kernel
theorem dX10_in_3 : decode cX10_in 3 = .ok (.ifCond .lt 14, 3) := by decide +kernel
theorem dX10_in_6 : decode cX10_in 6 = .ok (.lload_n 0, 1) := by decide +kernel
theorem dX10_in_7 : decode cX10_in 7 = .ok (.lload 4, 2) := by decide +kernel
theorem dX10_in_9 : decode cX10_in 9 = .ok (.lcmp, 1) := by decide +kernel
theorem dX10_in_10 : decode cX10_in 10 = .ok (.ifCond .gt 7, 3) := by decide +kernel
theorem dX10_in_13 : decode cX10_in 13 = .ok (.iconst 1, 1) := by decide +kernel
theorem dX10_in_14 : decode cX10_in 14 = .ok (.goto 4, 3) := by decide +kernel
theorem dX10_in_17 : decode cX10_in 17 = .ok (.iconst 0, 1) := by decide +kernel
theorem dX10_in_18 : decode cX10_in 18 = .ok (.ireturn, 1) := by decide +kernel
theorem dX10_has_0 : decode cX10_has 0 = .ok (.iload_n 0, 1) := by decide +kernel
theorem dX10_has_1 : decode cX10_has 1 = .ok (.iload_n 1, 1) := by decide +kernel
theorem dX10_has_2 : decode cX10_has 2 = .ok (.ishr, 1) := by decide +kernel
theorem dX10_has_3 : decode cX10_has 3 = .ok (.iconst 1, 1) := by decide +kernel
theorem dX10_has_4 : decode cX10_has 4 = .ok (.iand, 1) := by decide +kernel
theorem dX10_has_5 : decode cX10_has 5 = .ok (.iconst 1, 1) := by decide +kernel
theorem dX10_has_6 : decode cX10_has 6 = .ok (.if_icmp .ne 7, 3) := by decide +kernel
theorem dX10_has_9 : decode cX10_has 9 = .ok (.iconst 1, 1) := by decide +kernel
theorem dX10_has_10 : decode cX10_has 10 = .ok (.goto 4, 3) := by decide +kernel
theorem dX10_has_13 : decode cX10_has 13 = .ok (.iconst 0, 1) := by decide +kernel
theorem dX10_has_14 : decode cX10_has 14 = .ok (.ireturn, 1) := by decide +kernel
theorem dX10_flag_0 : decode cX10_flag 0 = .ok (.iload_n 0, 1) := by decide +kernel
theorem dX10_flag_1 : decode cX10_flag 1 = .ok (.ifCond .eq 7, 3) := by decide +kernel
theorem dX10_flag_4 : decode cX10_flag 4 = .ok (.iconst 1, 1) := by decide +kernel
theorem dX10_flag_5 : decode cX10_flag 5 = .ok (.goto 4, 3) := by decide +kernel
theorem dX10_flag_8 : decode cX10_flag 8 = .ok (.iconst 0, 1) := by decide +kernel
theorem dX10_flag_9 : decode cX10_flag 9 = .ok (.ireturn, 1) := by decide +kernel
theorem dX10_common_0 : decode cX10_common 0 = .ok (.lload_n 2, 1) := by decide +kernel
theorem dX10_common_1 : decode cX10_common 1 = .ok (.lconst 0, 1) := by decide +kernel
theorem dX10_common_2 : decode cX10_common 2 = .ok (.lcmp, 1) := by decide +kernel
theorem dX10_common_3 : decode cX10_common 3 = .ok (.ifCond .ne 7, 3) := by decide +kernel
theorem dX10_common_6 : decode cX10_common 6 = .ok (.lload_n 0, 1) := by decide +kernel
theorem dX10_common_7 : decode cX10_common 7 = .ok (.goto 10, 3) := by decide +kernel
theorem dX10_common_10 : decode cX10_common 10 = .ok (.lload_n 2, 1) := by decide +kernel
theorem dX10_common_11 : decode cX10_common 11 = .ok (.lload_n 0, 1) := by decide +kernel
theorem dX10_common_12 : decode cX10_common 12 = .ok (.lload_n 2, 1) := by decide +kernel
theorem dX10_common_13 : decode cX10_common 13 = .ok (.lrem, 1) := by decide +kernel
theorem dX10_common_14 : decode cX10_common 14 = .ok (.invokestatic 7, 3) := by decide +kernel
theorem dX10_common_17 : decode cX10_common 17 = .ok (.lreturn, 1) := by decide +kernel
theorem dX10_enters_0 : decode cX10_enters 0 = .ok (.aload_n 0, 1) := by decide +kernel
theorem dX10_enters_1 : decode cX10_enters 1 = .ok (.getfield 11, 3) := by decide +kernel
theorem dX10_enters_4 : decode cX10_enters 4 = .ok (.aload_n 0, 1) := by decide +kernel
theorem dX10_enters_5 : decode cX10_enters 5 = .ok (.getfield 15, 3) := by decide +kernel
theorem dX10_enters_8 : decode cX10_enters 8 = .ok (.lload_n 1, 1) := by decide +kernel
theorem dX10_enters_9 : decode cX10_enters 9 = .ok (.lastore, 1) := by decide +kernel
theorem dX10_enters_10 : decode cX10_enters 10 = .ok (.aload_n 0, 1) := by decide +kernel
theorem dX10_enters_11 : decode cX10_enters 11 = .ok (.dup, 1) := by decide +kernel
theorem dX10_enters_12 : decode cX10_enters 12 = .ok (.getfield 15, 3) := by decide +kernel
theorem dX10_enters_15 : decode cX10_enters 15 = .ok (.iconst 1, 1) := by decide +kernel
theorem dX10_enters_16 : decode cX10_enters 16 = .ok (.iadd, 1) := by decide +kernel
theorem dX10_enters_17 : decode cX10_enters 17 = .ok (.putfield 15, 3) := by decide +kernel
theorem dX10_enters_20 : decode cX10_enters 20 = .ok (.return_, 1) := by decide +kernel
theorem dX10_tellsFraction_0 : decode cX10_tellsFraction 0 = .ok (.lload_n 1, 1) := by decide +kernel
theorem dX10_tellsFraction_1 : decode cX10_tellsFraction 1 = .ok (.lload_n 3, 1) := by decide +kernel
theorem dX10_tellsFraction_2 : decode cX10_tellsFraction 2 = .ok (.invokestatic 7, 3) := by decide +kernel
theorem dX10_tellsFraction_5 : decode cX10_tellsFraction 5 = .ok (.lstore 5, 2) := by decide +kernel
theorem dX10_tellsFraction_7 : decode cX10_tellsFraction 7 = .ok (.aload_n 0, 1) := by decide +kernel
theorem dX10_tellsFraction_8 : decode cX10_tellsFraction 8 = .ok (.iconst 0, 1) := by decide +kernel
theorem dX10_tellsFraction_9 : decode cX10_tellsFraction 9 = .ok (.putfield 15, 3) := by decide +kernel
theorem dX10_tellsFraction_12 : decode cX10_tellsFraction 12 = .ok (.aload_n 0, 1) := by decide +kernel
theorem dX10_tellsFraction_13 : decode cX10_tellsFraction 13 = .ok (.lload_n 1, 1) := by decide +kernel
theorem dX10_tellsFraction_14 : decode cX10_tellsFraction 14 = .ok (.lload 5, 2) := by decide +kernel
theorem dX10_tellsFraction_16 : decode cX10_tellsFraction 16 = .ok (.ldiv, 1) := by decide +kernel
theorem dX10_tellsFraction_17 : decode cX10_tellsFraction 17 = .ok (.invokevirtual 18, 3) := by decide +kernel
theorem dX10_tellsFraction_20 : decode cX10_tellsFraction 20 = .ok (.aload_n 0, 1) := by decide +kernel
theorem dX10_tellsFraction_21 : decode cX10_tellsFraction 21 = .ok (.lload_n 3, 1) := by decide +kernel
theorem dX10_tellsFraction_22 : decode cX10_tellsFraction 22 = .ok (.lload 5, 2) := by decide +kernel
theorem dX10_tellsFraction_24 : decode cX10_tellsFraction 24 = .ok (.ldiv, 1) := by decide +kernel
theorem dX10_tellsFraction_25 : decode cX10_tellsFraction 25 = .ok (.invokevirtual 18, 3) := by decide +kernel
theorem dX10_tellsFraction_28 : decode cX10_tellsFraction 28 = .ok (.return_, 1) := by decide +kernel
theorem dX10_init_0 : decode cX10_init 0 = .ok (.aload_n 0, 1) := by decide +kernel
theorem dX10_init_1 : decode cX10_init 1 = .ok (.invokespecial 22, 3) := by decide +kernel
theorem dX10_init_4 : decode cX10_init 4 = .ok (.aload_n 0, 1) := by decide +kernel
theorem dX10_init_5 : decode cX10_init 5 = .ok (.bipush 24, 2) := by decide +kernel
theorem dX10_init_7 : decode cX10_init 7 = .ok (.newarray .long, 2) := by decide +kernel
theorem dX10_init_9 : decode cX10_init 9 = .ok (.putfield 11, 3) := by decide +kernel
theorem dX10_init_12 : decode cX10_init 12 = .ok (.aload_n 0, 1) := by decide +kernel
theorem dX10_init_13 : decode cX10_init 13 = .ok (.iconst 1, 1) := by decide +kernel
theorem dX10_init_14 : decode cX10_init 14 = .ok (.putfield 28, 3) := by decide +kernel
theorem dX10_init_17 : decode cX10_init 17 = .ok (.aload_n 0, 1) := by decide +kernel
theorem dX10_init_18 : decode cX10_init 18 = .ok (.bipush 8, 2) := by decide +kernel
theorem dX10_init_20 : decode cX10_init 20 = .ok (.newarray .int, 2) := by decide +kernel
theorem dX10_init_22 : decode cX10_init 22 = .ok (.putfield 31, 3) := by decide +kernel
theorem dX10_init_25 : decode cX10_init 25 = .ok (.aload_n 0, 1) := by decide +kernel
theorem dX10_init_26 : decode cX10_init 26 = .ok (.bipush 8, 2) := by decide +kernel
theorem dX10_init_28 : decode cX10_init 28 = .ok (.newarray .int, 2) := by decide +kernel
theorem dX10_init_30 : decode cX10_init 30 = .ok (.putfield 35, 3) := by decide +kernel
theorem dX10_init_33 : decode cX10_init 33 = .ok (.aload_n 0, 1) := by decide +kernel
theorem dX10_init_34 : decode cX10_init 34 = .ok (.bipush 6, 2) := by decide +kernel
theorem dX10_init_36 : decode cX10_init 36 = .ok (.newarray .int, 2) := by decide +kernel
theorem dX10_init_38 : decode cX10_init 38 = .ok (.putfield 38, 3) := by decide +kernel
theorem dX10_init_41 : decode cX10_init 41 = .ok (.aload_n 0, 1) := by decide +kernel
theorem dX10_init_42 : decode cX10_init 42 = .ok (.bipush 28, 2) := by decide +kernel
theorem dX10_init_44 : decode cX10_init 44 = .ok (.newarray .int, 2) := by decide +kernel
theorem dX10_init_46 : decode cX10_init 46 = .ok (.putfield 41, 3) := by decide +kernel
theorem dX10_init_49 : decode cX10_init 49 = .ok (.aload_n 0, 1) := by decide +kernel
theorem dX10_init_50 : decode cX10_init 50 = .ok (.bipush 28, 2) := by decide +kernel
theorem dX10_init_52 : decode cX10_init 52 = .ok (.newarray .int, 2) := by decide +kernel
theorem dX10_init_54 : decode cX10_init 54 = .ok (.putfield 44, 3) := by decide +kernel
theorem dX10_init_57 : decode cX10_init 57 = .ok (.aload_n 0, 1) := by decide +kernel
theorem dX10_init_58 : decode cX10_init 58 = .ok (.bipush 80, 2) := by decide +kernel
theorem dX10_init_60 : decode cX10_init 60 = .ok (.newarray .int, 2) := by decide +kernel
theorem dX10_init_62 : decode cX10_init 62 = .ok (.putfield 47, 3) := by decide +kernel
theorem dX10_init_65 : decode cX10_init 65 = .ok (.aload_n 0, 1) := by decide +kernel
theorem dX10_init_66 : decode cX10_init 66 = .ok (.bipush 8, 2) := by decide +kernel
theorem dX10_init_68 : decode cX10_init 68 = .ok (.newarray .int, 2) := by decide +kernel
theorem dX10_init_70 : decode cX10_init 70 = .ok (.putfield 50, 3) := by decide +kernel
theorem dX10_init_73 : decode cX10_init 73 = .ok (.aload_n 0, 1) := by decide +kernel
theorem dX10_init_74 : decode cX10_init 74 = .ok (.bipush 8, 2) := by decide +kernel
theorem dX10_init_76 : decode cX10_init 76 = .ok (.newarray .int, 2) := by decide +kernel
theorem dX10_init_78 : decode cX10_init 78 = .ok (.putfield 53, 3) := by decide +kernel
theorem dX10_init_81 : decode cX10_init 81 = .ok (.aload_n 0, 1) := by decide +kernel
theorem dX10_init_82 : decode cX10_init 82 = .ok (.bipush 80, 2) := by decide +kernel
theorem dX10_init_84 : decode cX10_init 84 = .ok (.newarray .int, 2) := by decide +kernel
theorem dX10_init_86 : decode cX10_init 86 = .ok (.putfield 56, 3) := by decide +kernel
theorem dX10_init_89 : decode cX10_init 89 = .ok (.aload_n 0, 1) := by decide +kernel
theorem dX10_init_90 : decode cX10_init 90 = .ok (.bipush 80, 2) := by decide +kernel
theorem dX10_init_92 : decode cX10_init 92 = .ok (.newarray .int, 2) := by decide +kernel
theorem dX10_init_94 : decode cX10_init 94 = .ok (.putfield 59, 3) := by decide +kernel
theorem dX10_init_97 : decode cX10_init 97 = .ok (.aload_n 0, 1) := by decide +kernel
theorem dX10_init_98 : decode cX10_init 98 = .ok (.bipush 80, 2) := by decide +kernel
theorem dX10_init_100 : decode cX10_init 100 = .ok (.newarray .int, 2) := by decide +kernel
theorem dX10_init_102 : decode cX10_init 102 = .ok (.putfield 62, 3) := by decide +kernel
theorem dX10_init_105 : decode cX10_init 105 = .ok (.aload_n 0, 1) := by decide +kernel
theorem dX10_init_106 : decode cX10_init 106 = .ok (.bipush 6, 2) := by decide +kernel
theorem dX10_init_108 : decode cX10_init 108 = .ok (.newarray .int, 2) := by decide +kernel
theorem dX10_init_110 : decode cX10_init 110 = .ok (.putfield 65, 3) := by decide +kernel
theorem dX10_init_113 : decode cX10_init 113 = .ok (.aload_n 0, 1) := by decide +kernel
theorem dX10_init_114 : decode cX10_init 114 = .ok (.sipush 448, 3) := by decide +kernel
theorem dX10_init_117 : decode cX10_init 117 = .ok (.newarray .int, 2) := by decide +kernel
theorem dX10_init_119 : decode cX10_init 119 = .ok (.putfield 68, 3) := by decide +kernel
theorem dX10_init_122 : decode cX10_init 122 = .ok (.aload_n 0, 1) := by decide +kernel
theorem dX10_init_123 : decode cX10_init 123 = .ok (.bipush 12, 2) := by decide +kernel
theorem dX10_init_125 : decode cX10_init 125 = .ok (.newarray .int, 2) := by decide +kernel
theorem dX10_init_127 : decode cX10_init 127 = .ok (.putfield 71, 3) := by decide +kernel
theorem dX10_init_130 : decode cX10_init 130 = .ok (.aload_n 0, 1) := by decide +kernel
theorem dX10_init_131 : decode cX10_init 131 = .ok (.bipush 60, 2) := by decide +kernel
theorem dX10_init_133 : decode cX10_init 133 = .ok (.newarray .int, 2) := by decide +kernel
theorem dX10_init_135 : decode cX10_init 135 = .ok (.putfield 74, 3) := by decide +kernel
theorem dX10_init_138 : decode cX10_init 138 = .ok (.aload_n 0, 1) := by decide +kernel
theorem dX10_init_139 : decode cX10_init 139 = .ok (.bipush 60, 2) := by decide +kernel
theorem dX10_init_141 : decode cX10_init 141 = .ok (.newarray .int, 2) := by decide +kernel
theorem dX10_init_143 : decode cX10_init 143 = .ok (.putfield 77, 3) := by decide +kernel
theorem dX10_init_146 : decode cX10_init 146 = .ok (.aload_n 0, 1) := by decide +kernel
theorem dX10_init_147 : decode cX10_init 147 = .ok (.bipush 60, 2) := by decide +kernel
theorem dX10_init_149 : decode cX10_init 149 = .ok (.newarray .int, 2) := by decide +kernel
theorem dX10_init_151 : decode cX10_init 151 = .ok (.putfield 80, 3) := by decide +kernel
theorem dX10_init_154 : decode cX10_init 154 = .ok (.aload_n 0, 1) := by decide +kernel
theorem dX10_init_155 : decode cX10_init 155 = .ok (.bipush 60, 2) := by decide +kernel
theorem dX10_init_157 : decode cX10_init 157 = .ok (.newarray .int, 2) := by decide +kernel
theorem dX10_init_159 : decode cX10_init 159 = .ok (.putfield 83, 3) := by decide +kernel
theorem dX10_init_162 : decode cX10_init 162 = .ok (.aload_n 0, 1) := by decide +kernel
theorem dX10_init_163 : decode cX10_init 163 = .ok (.bipush 6, 2) := by decide +kernel
theorem dX10_init_165 : decode cX10_init 165 = .ok (.newarray .int, 2) := by decide +kernel
theorem dX10_init_167 : decode cX10_init 167 = .ok (.putfield 86, 3) := by decide +kernel
theorem dX10_init_170 : decode cX10_init 170 = .ok (.aload_n 0, 1) := by decide +kernel
theorem dX10_init_171 : decode cX10_init 171 = .ok (.bipush 6, 2) := by decide +kernel
theorem dX10_init_173 : decode cX10_init 173 = .ok (.newarray .int, 2) := by decide +kernel
theorem dX10_init_175 : decode cX10_init 175 = .ok (.putfield 89, 3) := by decide +kernel
theorem dX10_init_178 : decode cX10_init 178 = .ok (.aload_n 0, 1) := by decide +kernel
theorem dX10_init_179 : decode cX10_init 179 = .ok (.bipush 6, 2) := by decide +kernel
theorem dX10_init_181 : decode cX10_init 181 = .ok (.newarray .int, 2) := by decide +kernel
theorem dX10_init_183 : decode cX10_init 183 = .ok (.putfield 92, 3) := by decide +kernel
theorem dX10_init_186 : decode cX10_init 186 = .ok (.aload_n 0, 1) := by decide +kernel
theorem dX10_init_187 : decode cX10_init 187 = .ok (.bipush 8, 2) := by decide +kernel
theorem dX10_init_189 : decode cX10_init 189 = .ok (.newarray .int, 2) := by decide +kernel
theorem dX10_init_191 : decode cX10_init 191 = .ok (.putfield 95, 3) := by decide +kernel
theorem dX10_init_194 : decode cX10_init 194 = .ok (.aload_n 0, 1) := by decide +kernel
theorem dX10_init_195 : decode cX10_init 195 = .ok (.bipush 8, 2) := by decide +kernel
theorem dX10_init_197 : decode cX10_init 197 = .ok (.newarray .int, 2) := by decide +kernel
theorem dX10_init_199 : decode cX10_init 199 = .ok (.putfield 98, 3) := by decide +kernel
theorem dX10_init_202 : decode cX10_init 202 = .ok (.aload_n 0, 1) := by decide +kernel
theorem dX10_init_203 : decode cX10_init 203 = .ok (.bipush 8, 2) := by decide +kernel
theorem dX10_init_205 : decode cX10_init 205 = .ok (.newarray .int, 2) := by decide +kernel
theorem dX10_init_207 : decode cX10_init 207 = .ok (.putfield 101, 3) := by decide +kernel
theorem dX10_init_210 : decode cX10_init 210 = .ok (.aload_n 0, 1) := by decide +kernel
theorem dX10_init_211 : decode cX10_init 211 = .ok (.bipush 40, 2) := by decide +kernel
theorem dX10_init_213 : decode cX10_init 213 = .ok (.newarray .int, 2) := by decide +kernel
theorem dX10_init_215 : decode cX10_init 215 = .ok (.putfield 104, 3) := by decide +kernel
theorem dX10_init_218 : decode cX10_init 218 = .ok (.aload_n 0, 1) := by decide +kernel
theorem dX10_init_219 : decode cX10_init 219 = .ok (.bipush 80, 2) := by decide +kernel
theorem dX10_init_221 : decode cX10_init 221 = .ok (.newarray .int, 2) := by decide +kernel
theorem dX10_init_223 : decode cX10_init 223 = .ok (.putfield 107, 3) := by decide +kernel
theorem dX10_init_226 : decode cX10_init 226 = .ok (.aload_n 0, 1) := by decide +kernel
theorem dX10_init_227 : decode cX10_init 227 = .ok (.iconst 3, 1) := by decide +kernel
theorem dX10_init_228 : decode cX10_init 228 = .ok (.newarray .boolean, 2) := by decide +kernel
theorem dX10_init_230 : decode cX10_init 230 = .ok (.putfield 110, 3) := by decide +kernel
theorem dX10_init_233 : decode cX10_init 233 = .ok (.aload_n 0, 1) := by decide +kernel
theorem dX10_init_234 : decode cX10_init 234 = .ok (.iconst 3, 1) := by decide +kernel
theorem dX10_init_235 : decode cX10_init 235 = .ok (.newarray .int, 2) := by decide +kernel
theorem dX10_init_237 : decode cX10_init 237 = .ok (.putfield 114, 3) := by decide +kernel
theorem dX10_init_240 : decode cX10_init 240 = .ok (.aload_n 0, 1) := by decide +kernel
theorem dX10_init_241 : decode cX10_init 241 = .ok (.bipush 84, 2) := by decide +kernel
theorem dX10_init_243 : decode cX10_init 243 = .ok (.newarray .int, 2) := by decide +kernel
theorem dX10_init_245 : decode cX10_init 245 = .ok (.putfield 117, 3) := by decide +kernel
theorem dX10_init_248 : decode cX10_init 248 = .ok (.aload_n 0, 1) := by decide +kernel
theorem dX10_init_249 : decode cX10_init 249 = .ok (.getfield 41, 3) := by decide +kernel
theorem dX10_init_252 : decode cX10_init 252 = .ok (.bipush 24, 2) := by decide +kernel
theorem dX10_init_254 : decode cX10_init 254 = .ok (.iconst 2, 1) := by decide +kernel
theorem dX10_init_255 : decode cX10_init 255 = .ok (.iastore, 1) := by decide +kernel
theorem dX10_init_256 : decode cX10_init 256 = .ok (.aload_n 0, 1) := by decide +kernel
theorem dX10_init_257 : decode cX10_init 257 = .ok (.getfield 31, 3) := by decide +kernel
theorem dX10_init_260 : decode cX10_init 260 = .ok (.iconst 0, 1) := by decide +kernel
theorem dX10_init_261 : decode cX10_init 261 = .ok (.iconst (-1), 1) := by decide +kernel
theorem dX10_init_262 : decode cX10_init 262 = .ok (.iastore, 1) := by decide +kernel
theorem dX10_init_263 : decode cX10_init 263 = .ok (.return_, 1) := by decide +kernel
theorem dX10_isMarket_0 : decode cX10_isMarket 0 = .ok (.iload_n 1, 1) := by decide +kernel
theorem dX10_isMarket_1 : decode cX10_isMarket 1 = .ok (.i2l, 1) := by decide +kernel
theorem dX10_isMarket_2 : decode cX10_isMarket 2 = .ok (.lconst 0, 1) := by decide +kernel
theorem dX10_isMarket_3 : decode cX10_isMarket 3 = .ok (.aload_n 0, 1) := by decide +kernel
theorem dX10_isMarket_4 : decode cX10_isMarket 4 = .ok (.getfield 120, 3) := by decide +kernel
theorem dX10_isMarket_7 : decode cX10_isMarket 7 = .ok (.iconst 1, 1) := by decide +kernel
theorem dX10_isMarket_8 : decode cX10_isMarket 8 = .ok (.isub, 1) := by decide +kernel
theorem dX10_isMarket_9 : decode cX10_isMarket 9 = .ok (.i2l, 1) := by decide +kernel
theorem dX10_isMarket_10 : decode cX10_isMarket 10 = .ok (.invokestatic 123, 3) := by decide +kernel
theorem dX10_isMarket_13 : decode cX10_isMarket 13 = .ok (.ireturn, 1) := by decide +kernel
theorem dX10_isKind_0 : decode cX10_isKind 0 = .ok (.iload_n 0, 1) := by decide +kernel
theorem dX10_isKind_1 : decode cX10_isKind 1 = .ok (.i2l, 1) := by decide +kernel
theorem dX10_isKind_2 : decode cX10_isKind 2 = .ok (.lconst 0, 1) := by decide +kernel
theorem dX10_isKind_3 : decode cX10_isKind 3 = .ok (.lconst 1, 1) := by decide +kernel
theorem dX10_isKind_4 : decode cX10_isKind 4 = .ok (.invokestatic 123, 3) := by decide +kernel
theorem dX10_isKind_7 : decode cX10_isKind 7 = .ok (.ireturn, 1) := by decide +kernel
theorem dX10_at_0 : decode cX10_at 0 = .ok (.bipush 6, 2) := by decide +kernel
theorem dX10_at_2 : decode cX10_at 2 = .ok (.iload_n 0, 1) := by decide +kernel
theorem dX10_at_3 : decode cX10_at 3 = .ok (.imul, 1) := by decide +kernel
theorem dX10_at_4 : decode cX10_at 4 = .ok (.iload_n 1, 1) := by decide +kernel
theorem dX10_at_5 : decode cX10_at 5 = .ok (.iadd, 1) := by decide +kernel
theorem dX10_at_6 : decode cX10_at 6 = .ok (.ireturn, 1) := by decide +kernel
theorem dX10_sumOf_0 : decode cX10_sumOf 0 = .ok (.iconst 0, 1) := by decide +kernel
theorem dX10_sumOf_1 : decode cX10_sumOf 1 = .ok (.istore_n 3, 1) := by decide +kernel
theorem dX10_sumOf_2 : decode cX10_sumOf 2 = .ok (.iconst 0, 1) := by decide +kernel
theorem dX10_sumOf_3 : decode cX10_sumOf 3 = .ok (.istore 4, 2) := by decide +kernel
theorem dX10_sumOf_5 : decode cX10_sumOf 5 = .ok (.iload 4, 2) := by decide +kernel
theorem dX10_sumOf_7 : decode cX10_sumOf 7 = .ok (.aload_n 0, 1) := by decide +kernel
theorem dX10_sumOf_8 : decode cX10_sumOf 8 = .ok (.getfield 120, 3) := by decide +kernel
theorem dX10_sumOf_11 : decode cX10_sumOf 11 = .ok (.if_icmp .ge 18, 3) := by decide +kernel
theorem dX10_sumOf_14 : decode cX10_sumOf 14 = .ok (.iload_n 3, 1) := by decide +kernel
theorem dX10_sumOf_15 : decode cX10_sumOf 15 = .ok (.aload_n 1, 1) := by decide +kernel
theorem dX10_sumOf_16 : decode cX10_sumOf 16 = .ok (.iload_n 2, 1) := by decide +kernel
theorem dX10_sumOf_17 : decode cX10_sumOf 17 = .ok (.iload 4, 2) := by decide +kernel
theorem dX10_sumOf_19 : decode cX10_sumOf 19 = .ok (.iadd, 1) := by decide +kernel
theorem dX10_sumOf_20 : decode cX10_sumOf 20 = .ok (.iaload, 1) := by decide +kernel
theorem dX10_sumOf_21 : decode cX10_sumOf 21 = .ok (.iadd, 1) := by decide +kernel
theorem dX10_sumOf_22 : decode cX10_sumOf 22 = .ok (.istore_n 3, 1) := by decide +kernel
theorem dX10_sumOf_23 : decode cX10_sumOf 23 = .ok (.iinc 4 1, 3) := by decide +kernel
theorem dX10_sumOf_26 : decode cX10_sumOf 26 = .ok (.goto (-21), 3) := by decide +kernel
theorem dX10_sumOf_29 : decode cX10_sumOf 29 = .ok (.iload_n 3, 1) := by decide +kernel
theorem dX10_sumOf_30 : decode cX10_sumOf 30 = .ok (.ireturn, 1) := by decide +kernel
theorem dX10_sign_0 : decode cX10_sign 0 = .ok (.aload_n 0, 1) := by decide +kernel
theorem dX10_sign_1 : decode cX10_sign 1 = .ok (.iconst 0, 1) := by decide +kernel
theorem dX10_sign_2 : decode cX10_sign 2 = .ok (.putfield 3, 3) := by decide +kernel
theorem dX10_sign_5 : decode cX10_sign 5 = .ok (.aload_n 0, 1) := by decide +kernel
theorem dX10_sign_6 : decode cX10_sign 6 = .ok (.getfield 127, 3) := by decide +kernel
theorem dX10_sign_9 : decode cX10_sign 9 = .ok (.bipush 76, 2) := by decide +kernel
theorem dX10_sign_11 : decode cX10_sign 11 = .ok (.if_icmp .le 5, 3) := by decide +kernel
theorem dX10_sign_14 : decode cX10_sign 14 = .ok (.iconst (-1), 1) := by decide +kernel
theorem dX10_sign_15 : decode cX10_sign 15 = .ok (.ireturn, 1) := by decide +kernel
theorem dX10_sign_16 : decode cX10_sign 16 = .ok (.iconst 0, 1) := by decide +kernel
theorem dX10_sign_17 : decode cX10_sign 17 = .ok (.istore_n 2, 1) := by decide +kernel
theorem dX10_sign_18 : decode cX10_sign 18 = .ok (.iload_n 2, 1) := by decide +kernel
theorem dX10_sign_19 : decode cX10_sign 19 = .ok (.iconst 4, 1) := by decide +kernel
theorem dX10_sign_20 : decode cX10_sign 20 = .ok (.if_icmp .ge 33, 3) := by decide +kernel
theorem dX10_sign_23 : decode cX10_sign 23 = .ok (.aload_n 0, 1) := by decide +kernel
theorem dX10_sign_24 : decode cX10_sign 24 = .ok (.getfield 47, 3) := by decide +kernel
theorem dX10_sign_27 : decode cX10_sign 27 = .ok (.aload_n 0, 1) := by decide +kernel
theorem dX10_sign_28 : decode cX10_sign 28 = .ok (.getfield 127, 3) := by decide +kernel
theorem dX10_sign_31 : decode cX10_sign 31 = .ok (.iload_n 2, 1) := by decide +kernel
theorem dX10_sign_32 : decode cX10_sign 32 = .ok (.iadd, 1) := by decide +kernel
theorem dX10_sign_33 : decode cX10_sign 33 = .ok (.iload_n 1, 1) := by decide +kernel
theorem dX10_sign_34 : decode cX10_sign 34 = .ok (.bipush 24, 2) := by decide +kernel
theorem dX10_sign_36 : decode cX10_sign 36 = .ok (.bipush 8, 2) := by decide +kernel
theorem dX10_sign_38 : decode cX10_sign 38 = .ok (.iload_n 2, 1) := by decide +kernel
theorem dX10_sign_39 : decode cX10_sign 39 = .ok (.imul, 1) := by decide +kernel
theorem dX10_sign_40 : decode cX10_sign 40 = .ok (.isub, 1) := by decide +kernel
theorem dX10_sign_41 : decode cX10_sign 41 = .ok (.ishr, 1) := by decide +kernel
theorem dX10_sign_42 : decode cX10_sign 42 = .ok (.sipush 255, 3) := by decide +kernel
theorem dX10_sign_45 : decode cX10_sign 45 = .ok (.iand, 1) := by decide +kernel
theorem dX10_sign_46 : decode cX10_sign 46 = .ok (.iastore, 1) := by decide +kernel
theorem dX10_sign_47 : decode cX10_sign 47 = .ok (.iinc 2 1, 3) := by decide +kernel
theorem dX10_sign_50 : decode cX10_sign 50 = .ok (.goto (-32), 3) := by decide +kernel
theorem dX10_sign_53 : decode cX10_sign 53 = .ok (.aload_n 0, 1) := by decide +kernel
theorem dX10_sign_54 : decode cX10_sign 54 = .ok (.dup, 1) := by decide +kernel
theorem dX10_sign_55 : decode cX10_sign 55 = .ok (.getfield 127, 3) := by decide +kernel
theorem dX10_sign_58 : decode cX10_sign 58 = .ok (.iconst 4, 1) := by decide +kernel
theorem dX10_sign_59 : decode cX10_sign 59 = .ok (.iadd, 1) := by decide +kernel
theorem dX10_sign_60 : decode cX10_sign 60 = .ok (.putfield 127, 3) := by decide +kernel
theorem dX10_sign_63 : decode cX10_sign 63 = .ok (.aload_n 0, 1) := by decide +kernel
theorem dX10_sign_64 : decode cX10_sign 64 = .ok (.getfield 127, 3) := by decide +kernel
theorem dX10_sign_67 : decode cX10_sign 67 = .ok (.ireturn, 1) := by decide +kernel
theorem dX10_end_0 : decode cX10_end 0 = .ok (.aload_n 0, 1) := by decide +kernel
theorem dX10_end_1 : decode cX10_end 1 = .ok (.iconst 0, 1) := by decide +kernel
theorem dX10_end_2 : decode cX10_end 2 = .ok (.putfield 3, 3) := by decide +kernel
theorem dX10_end_5 : decode cX10_end 5 = .ok (.iload_n 1, 1) := by decide +kernel
theorem dX10_end_6 : decode cX10_end 6 = .ok (.i2l, 1) := by decide +kernel
theorem dX10_end_7 : decode cX10_end 7 = .ok (.lconst 0, 1) := by decide +kernel
theorem dX10_end_8 : decode cX10_end 8 = .ok (.aload_n 0, 1) := by decide +kernel
theorem dX10_end_9 : decode cX10_end 9 = .ok (.getfield 127, 3) := by decide +kernel
theorem dX10_end_12 : decode cX10_end 12 = .ok (.i2l, 1) := by decide +kernel
theorem dX10_end_13 : decode cX10_end 13 = .ok (.invokestatic 123, 3) := by decide +kernel
theorem dX10_end_16 : decode cX10_end 16 = .ok (.ifCond .ne 5, 3) := by decide +kernel
theorem dX10_end_19 : decode cX10_end 19 = .ok (.iconst 0, 1) := by decide +kernel
theorem dX10_end_20 : decode cX10_end 20 = .ok (.ireturn, 1) := by decide +kernel
theorem dX10_end_21 : decode cX10_end 21 = .ok (.aload_n 0, 1) := by decide +kernel
theorem dX10_end_22 : decode cX10_end 22 = .ok (.iload_n 1, 1) := by decide +kernel
theorem dX10_end_23 : decode cX10_end 23 = .ok (.putfield 127, 3) := by decide +kernel
theorem dX10_end_26 : decode cX10_end 26 = .ok (.iconst 1, 1) := by decide +kernel
theorem dX10_end_27 : decode cX10_end 27 = .ok (.ireturn, 1) := by decide +kernel
theorem dX10_begins_0 : decode cX10_begins 0 = .ok (.aload_n 0, 1) := by decide +kernel
theorem dX10_begins_1 : decode cX10_begins 1 = .ok (.getfield 127, 3) := by decide +kernel
theorem dX10_begins_4 : decode cX10_begins 4 = .ok (.istore_n 2, 1) := by decide +kernel
theorem dX10_begins_5 : decode cX10_begins 5 = .ok (.aload_n 0, 1) := by decide +kernel
theorem dX10_begins_6 : decode cX10_begins 6 = .ok (.iconst 0, 1) := by decide +kernel
theorem dX10_begins_7 : decode cX10_begins 7 = .ok (.putfield 127, 3) := by decide +kernel
theorem dX10_begins_10 : decode cX10_begins 10 = .ok (.aload_n 0, 1) := by decide +kernel
theorem dX10_begins_11 : decode cX10_begins 11 = .ok (.iconst 0, 1) := by decide +kernel
theorem dX10_begins_12 : decode cX10_begins 12 = .ok (.putfield 130, 3) := by decide +kernel
theorem dX10_begins_15 : decode cX10_begins 15 = .ok (.aload_n 0, 1) := by decide +kernel
theorem dX10_begins_16 : decode cX10_begins 16 = .ok (.iconst 0, 1) := by decide +kernel
theorem dX10_begins_17 : decode cX10_begins 17 = .ok (.putfield 133, 3) := by decide +kernel
theorem dX10_begins_20 : decode cX10_begins 20 = .ok (.aload_n 0, 1) := by decide +kernel
theorem dX10_begins_21 : decode cX10_begins 21 = .ok (.iload_n 2, 1) := by decide +kernel
theorem dX10_begins_22 : decode cX10_begins 22 = .ok (.iload_n 1, 1) := by decide +kernel
theorem dX10_begins_23 : decode cX10_begins 23 = .ok (.invokestatic 136, 3) := by decide +kernel
theorem dX10_begins_26 : decode cX10_begins 26 = .ok (.putfield 142, 3) := by decide +kernel
theorem dX10_begins_29 : decode cX10_begins 29 = .ok (.iload_n 2, 1) := by decide +kernel
theorem dX10_begins_30 : decode cX10_begins 30 = .ok (.ireturn, 1) := by decide +kernel
theorem dX10_takes_0 : decode cX10_takes 0 = .ok (.aload_n 0, 1) := by decide +kernel
theorem dX10_takes_1 : decode cX10_takes 1 = .ok (.getfield 130, 3) := by decide +kernel
theorem dX10_takes_4 : decode cX10_takes 4 = .ok (.aload_n 0, 1) := by decide +kernel
theorem dX10_takes_5 : decode cX10_takes 5 = .ok (.getfield 142, 3) := by decide +kernel
theorem dX10_takes_8 : decode cX10_takes 8 = .ok (.if_icmp .ge 20, 3) := by decide +kernel
theorem dX10_takes_11 : decode cX10_takes 11 = .ok (.aload_n 0, 1) := by decide +kernel
theorem dX10_takes_12 : decode cX10_takes 12 = .ok (.getfield 47, 3) := by decide +kernel
theorem dX10_takes_15 : decode cX10_takes 15 = .ok (.aload_n 0, 1) := by decide +kernel
theorem dX10_takes_16 : decode cX10_takes 16 = .ok (.getfield 130, 3) := by decide +kernel
theorem dX10_takes_19 : decode cX10_takes 19 = .ok (.iaload, 1) := by decide +kernel
theorem dX10_takes_20 : decode cX10_takes 20 = .ok (.iload_n 1, 1) := by decide +kernel
theorem dX10_takes_21 : decode cX10_takes 21 = .ok (.if_icmp .ne 7, 3) := by decide +kernel
theorem dX10_takes_24 : decode cX10_takes 24 = .ok (.iconst 1, 1) := by decide +kernel
theorem dX10_takes_25 : decode cX10_takes 25 = .ok (.goto 4, 3) := by decide +kernel
theorem dX10_takes_28 : decode cX10_takes 28 = .ok (.iconst 0, 1) := by decide +kernel
theorem dX10_takes_29 : decode cX10_takes 29 = .ok (.istore_n 2, 1) := by decide +kernel
theorem dX10_takes_30 : decode cX10_takes 30 = .ok (.aload_n 0, 1) := by decide +kernel
theorem dX10_takes_31 : decode cX10_takes 31 = .ok (.dup, 1) := by decide +kernel
theorem dX10_takes_32 : decode cX10_takes 32 = .ok (.getfield 130, 3) := by decide +kernel
theorem dX10_takes_35 : decode cX10_takes 35 = .ok (.iload_n 2, 1) := by decide +kernel
theorem dX10_takes_36 : decode cX10_takes 36 = .ok (.invokestatic 145, 3) := by decide +kernel
theorem dX10_takes_39 : decode cX10_takes 39 = .ok (.iadd, 1) := by decide +kernel
theorem dX10_takes_40 : decode cX10_takes 40 = .ok (.putfield 130, 3) := by decide +kernel
theorem dX10_takes_43 : decode cX10_takes 43 = .ok (.iload_n 2, 1) := by decide +kernel
theorem dX10_takes_44 : decode cX10_takes 44 = .ok (.ireturn, 1) := by decide +kernel
theorem dX10_isDigit_0 : decode cX10_isDigit 0 = .ok (.aload_n 0, 1) := by decide +kernel
theorem dX10_isDigit_1 : decode cX10_isDigit 1 = .ok (.getfield 130, 3) := by decide +kernel
theorem dX10_isDigit_4 : decode cX10_isDigit 4 = .ok (.aload_n 0, 1) := by decide +kernel
theorem dX10_isDigit_5 : decode cX10_isDigit 5 = .ok (.getfield 142, 3) := by decide +kernel
theorem dX10_isDigit_8 : decode cX10_isDigit 8 = .ok (.if_icmp .ge 29, 3) := by decide +kernel
theorem dX10_isDigit_11 : decode cX10_isDigit 11 = .ok (.aload_n 0, 1) := by decide +kernel
theorem dX10_isDigit_12 : decode cX10_isDigit 12 = .ok (.getfield 47, 3) := by decide +kernel
theorem dX10_isDigit_15 : decode cX10_isDigit 15 = .ok (.aload_n 0, 1) := by decide +kernel
theorem dX10_isDigit_16 : decode cX10_isDigit 16 = .ok (.getfield 130, 3) := by decide +kernel
theorem dX10_isDigit_19 : decode cX10_isDigit 19 = .ok (.iaload, 1) := by decide +kernel
theorem dX10_isDigit_20 : decode cX10_isDigit 20 = .ok (.i2l, 1) := by decide +kernel
theorem dX10_isDigit_21 : decode cX10_isDigit 21 = .ok (.ldc2_w 149, 3) := by decide +kernel
theorem dX10_isDigit_24 : decode cX10_isDigit 24 = .ok (.ldc2_w 151, 3) := by decide +kernel
theorem dX10_isDigit_27 : decode cX10_isDigit 27 = .ok (.invokestatic 123, 3) := by decide +kernel
theorem dX10_isDigit_30 : decode cX10_isDigit 30 = .ok (.ifCond .eq 7, 3) := by decide +kernel
theorem dX10_isDigit_33 : decode cX10_isDigit 33 = .ok (.iconst 1, 1) := by decide +kernel
theorem dX10_isDigit_34 : decode cX10_isDigit 34 = .ok (.goto 4, 3) := by decide +kernel
theorem dX10_isDigit_37 : decode cX10_isDigit 37 = .ok (.iconst 0, 1) := by decide +kernel
theorem dX10_isDigit_38 : decode cX10_isDigit 38 = .ok (.ireturn, 1) := by decide +kernel
theorem dX10_takesOf_0 : decode cX10_takesOf 0 = .ok (.iconst 0, 1) := by decide +kernel
theorem dX10_takesOf_1 : decode cX10_takesOf 1 = .ok (.istore_n 2, 1) := by decide +kernel
theorem dX10_takesOf_2 : decode cX10_takesOf 2 = .ok (.iload_n 2, 1) := by decide +kernel
theorem dX10_takesOf_3 : decode cX10_takesOf 3 = .ok (.aload_n 1, 1) := by decide +kernel
theorem dX10_takesOf_4 : decode cX10_takesOf 4 = .ok (.invokevirtual 153, 3) := by decide +kernel
theorem dX10_takesOf_7 : decode cX10_takesOf 7 = .ok (.if_icmp .ge 49, 3) := by decide +kernel
theorem dX10_takesOf_10 : decode cX10_takesOf 10 = .ok (.aload_n 0, 1) := by decide +kernel
theorem dX10_takesOf_11 : decode cX10_takesOf 11 = .ok (.getfield 130, 3) := by decide +kernel
theorem dX10_takesOf_14 : decode cX10_takesOf 14 = .ok (.aload_n 0, 1) := by decide +kernel
theorem dX10_takesOf_15 : decode cX10_takesOf 15 = .ok (.getfield 142, 3) := by decide +kernel
theorem dX10_takesOf_18 : decode cX10_takesOf 18 = .ok (.if_icmp .ge 38, 3) := by decide +kernel
theorem dX10_takesOf_21 : decode cX10_takesOf 21 = .ok (.aload_n 1, 1) := by decide +kernel
theorem dX10_takesOf_22 : decode cX10_takesOf 22 = .ok (.iload_n 2, 1) := by decide +kernel
theorem dX10_takesOf_23 : decode cX10_takesOf 23 = .ok (.invokevirtual 159, 3) := by decide +kernel
theorem dX10_takesOf_26 : decode cX10_takesOf 26 = .ok (.aload_n 0, 1) := by decide +kernel
theorem dX10_takesOf_27 : decode cX10_takesOf 27 = .ok (.getfield 47, 3) := by decide +kernel
theorem dX10_takesOf_30 : decode cX10_takesOf 30 = .ok (.aload_n 0, 1) := by decide +kernel
theorem dX10_takesOf_31 : decode cX10_takesOf 31 = .ok (.getfield 130, 3) := by decide +kernel
theorem dX10_takesOf_34 : decode cX10_takesOf 34 = .ok (.iaload, 1) := by decide +kernel
theorem dX10_takesOf_35 : decode cX10_takesOf 35 = .ok (.if_icmp .ne 15, 3) := by decide +kernel
theorem dX10_takesOf_38 : decode cX10_takesOf 38 = .ok (.aload_n 0, 1) := by decide +kernel
theorem dX10_takesOf_39 : decode cX10_takesOf 39 = .ok (.dup, 1) := by decide +kernel
theorem dX10_takesOf_40 : decode cX10_takesOf 40 = .ok (.getfield 130, 3) := by decide +kernel
theorem dX10_takesOf_43 : decode cX10_takesOf 43 = .ok (.iconst 1, 1) := by decide +kernel
theorem dX10_takesOf_44 : decode cX10_takesOf 44 = .ok (.iadd, 1) := by decide +kernel
theorem dX10_takesOf_45 : decode cX10_takesOf 45 = .ok (.putfield 130, 3) := by decide +kernel
theorem dX10_takesOf_48 : decode cX10_takesOf 48 = .ok (.iload_n 2, 1) := by decide +kernel
theorem dX10_takesOf_49 : decode cX10_takesOf 49 = .ok (.ireturn, 1) := by decide +kernel
theorem dX10_takesOf_50 : decode cX10_takesOf 50 = .ok (.iinc 2 1, 3) := by decide +kernel
theorem dX10_takesOf_53 : decode cX10_takesOf 53 = .ok (.goto (-51), 3) := by decide +kernel
theorem dX10_takesOf_56 : decode cX10_takesOf 56 = .ok (.iconst (-1), 1) := by decide +kernel
theorem dX10_takesOf_57 : decode cX10_takesOf 57 = .ok (.ireturn, 1) := by decide +kernel
theorem dX10_number_0 : decode cX10_number 0 = .ok (.aload_n 0, 1) := by decide +kernel
theorem dX10_number_1 : decode cX10_number 1 = .ok (.invokevirtual 163, 3) := by decide +kernel
theorem dX10_number_4 : decode cX10_number 4 = .ok (.ifCond .ne 5, 3) := by decide +kernel
theorem dX10_number_7 : decode cX10_number 7 = .ok (.iconst (-1), 1) := by decide +kernel
theorem dX10_number_8 : decode cX10_number 8 = .ok (.ireturn, 1) := by decide +kernel
theorem dX10_number_9 : decode cX10_number 9 = .ok (.iconst 0, 1) := by decide +kernel
theorem dX10_number_10 : decode cX10_number 10 = .ok (.istore_n 2, 1) := by decide +kernel
theorem dX10_number_11 : decode cX10_number 11 = .ok (.iconst 0, 1) := by decide +kernel
theorem dX10_number_12 : decode cX10_number 12 = .ok (.istore_n 3, 1) := by decide +kernel
theorem dX10_number_13 : decode cX10_number 13 = .ok (.iload_n 3, 1) := by decide +kernel
theorem dX10_number_14 : decode cX10_number 14 = .ok (.iload_n 1, 1) := by decide +kernel
theorem dX10_number_15 : decode cX10_number 15 = .ok (.if_icmp .ge 44, 3) := by decide +kernel
theorem dX10_number_18 : decode cX10_number 18 = .ok (.aload_n 0, 1) := by decide +kernel
theorem dX10_number_19 : decode cX10_number 19 = .ok (.invokevirtual 163, 3) := by decide +kernel
theorem dX10_number_22 : decode cX10_number 22 = .ok (.ifCond .eq 37, 3) := by decide +kernel
theorem dX10_number_25 : decode cX10_number 25 = .ok (.bipush 10, 2) := by decide +kernel
theorem dX10_number_27 : decode cX10_number 27 = .ok (.iload_n 2, 1) := by decide +kernel
theorem dX10_number_28 : decode cX10_number 28 = .ok (.imul, 1) := by decide +kernel
theorem dX10_number_29 : decode cX10_number 29 = .ok (.aload_n 0, 1) := by decide +kernel
theorem dX10_number_30 : decode cX10_number 30 = .ok (.getfield 47, 3) := by decide +kernel
theorem dX10_number_33 : decode cX10_number 33 = .ok (.aload_n 0, 1) := by decide +kernel
theorem dX10_number_34 : decode cX10_number 34 = .ok (.getfield 130, 3) := by decide +kernel
theorem dX10_number_37 : decode cX10_number 37 = .ok (.iaload, 1) := by decide +kernel
theorem dX10_number_38 : decode cX10_number 38 = .ok (.iadd, 1) := by decide +kernel
theorem dX10_number_39 : decode cX10_number 39 = .ok (.bipush 48, 2) := by decide +kernel
theorem dX10_number_41 : decode cX10_number 41 = .ok (.isub, 1) := by decide +kernel
theorem dX10_number_42 : decode cX10_number 42 = .ok (.istore_n 2, 1) := by decide +kernel
theorem dX10_number_43 : decode cX10_number 43 = .ok (.aload_n 0, 1) := by decide +kernel
theorem dX10_number_44 : decode cX10_number 44 = .ok (.dup, 1) := by decide +kernel
theorem dX10_number_45 : decode cX10_number 45 = .ok (.getfield 130, 3) := by decide +kernel
theorem dX10_number_48 : decode cX10_number 48 = .ok (.iconst 1, 1) := by decide +kernel
theorem dX10_number_49 : decode cX10_number 49 = .ok (.iadd, 1) := by decide +kernel
theorem dX10_number_50 : decode cX10_number 50 = .ok (.putfield 130, 3) := by decide +kernel
theorem dX10_number_53 : decode cX10_number 53 = .ok (.iinc 3 1, 3) := by decide +kernel
theorem dX10_number_56 : decode cX10_number 56 = .ok (.goto (-43), 3) := by decide +kernel
theorem dX10_number_59 : decode cX10_number 59 = .ok (.iload_n 2, 1) := by decide +kernel
theorem dX10_number_60 : decode cX10_number 60 = .ok (.ireturn, 1) := by decide +kernel
theorem dX10_numberAbove_0 : decode cX10_numberAbove 0 = .ok (.aload_n 0, 1) := by decide +kernel
theorem dX10_numberAbove_1 : decode cX10_numberAbove 1 = .ok (.iload_n 1, 1) := by decide +kernel
theorem dX10_numberAbove_2 : decode cX10_numberAbove 2 = .ok (.invokevirtual 167, 3) := by decide +kernel
theorem dX10_numberAbove_5 : decode cX10_numberAbove 5 = .ok (.istore_n 2, 1) := by decide +kernel
theorem dX10_numberAbove_6 : decode cX10_numberAbove 6 = .ok (.aload_n 0, 1) := by decide +kernel
theorem dX10_numberAbove_7 : decode cX10_numberAbove 7 = .ok (.dup, 1) := by decide +kernel
theorem dX10_numberAbove_8 : decode cX10_numberAbove 8 = .ok (.getfield 130, 3) := by decide +kernel
theorem dX10_numberAbove_11 : decode cX10_numberAbove 11 = .ok (.iload_n 2, 1) := by decide +kernel
theorem dX10_numberAbove_12 : decode cX10_numberAbove 12 = .ok (.ifCond .ne 7, 3) := by decide +kernel
theorem dX10_numberAbove_15 : decode cX10_numberAbove 15 = .ok (.iconst 1, 1) := by decide +kernel
theorem dX10_numberAbove_16 : decode cX10_numberAbove 16 = .ok (.goto 4, 3) := by decide +kernel
theorem dX10_numberAbove_19 : decode cX10_numberAbove 19 = .ok (.iconst 0, 1) := by decide +kernel
theorem dX10_numberAbove_20 : decode cX10_numberAbove 20 = .ok (.invokestatic 145, 3) := by decide +kernel
theorem dX10_numberAbove_23 : decode cX10_numberAbove 23 = .ok (.isub, 1) := by decide +kernel
theorem dX10_numberAbove_24 : decode cX10_numberAbove 24 = .ok (.putfield 130, 3) := by decide +kernel
theorem dX10_numberAbove_27 : decode cX10_numberAbove 27 = .ok (.iload_n 2, 1) := by decide +kernel
theorem dX10_numberAbove_28 : decode cX10_numberAbove 28 = .ok (.ifCond .ne 7, 3) := by decide +kernel
theorem dX10_numberAbove_31 : decode cX10_numberAbove 31 = .ok (.iconst (-1), 1) := by decide +kernel
theorem dX10_numberAbove_32 : decode cX10_numberAbove 32 = .ok (.goto 4, 3) := by decide +kernel
theorem dX10_numberAbove_35 : decode cX10_numberAbove 35 = .ok (.iload_n 2, 1) := by decide +kernel
theorem dX10_numberAbove_36 : decode cX10_numberAbove 36 = .ok (.ireturn, 1) := by decide +kernel
theorem dX10_digitIn_0 : decode cX10_digitIn 0 = .ok (.aload_n 0, 1) := by decide +kernel
theorem dX10_digitIn_1 : decode cX10_digitIn 1 = .ok (.getfield 130, 3) := by decide +kernel
theorem dX10_digitIn_4 : decode cX10_digitIn 4 = .ok (.aload_n 0, 1) := by decide +kernel
theorem dX10_digitIn_5 : decode cX10_digitIn 5 = .ok (.getfield 142, 3) := by decide +kernel
theorem dX10_digitIn_8 : decode cX10_digitIn 8 = .ok (.if_icmp .ge 26, 3) := by decide +kernel
theorem dX10_digitIn_11 : decode cX10_digitIn 11 = .ok (.aload_n 0, 1) := by decide +kernel
theorem dX10_digitIn_12 : decode cX10_digitIn 12 = .ok (.getfield 47, 3) := by decide +kernel
theorem dX10_digitIn_15 : decode cX10_digitIn 15 = .ok (.aload_n 0, 1) := by decide +kernel
theorem dX10_digitIn_16 : decode cX10_digitIn 16 = .ok (.getfield 130, 3) := by decide +kernel
theorem dX10_digitIn_19 : decode cX10_digitIn 19 = .ok (.iaload, 1) := by decide +kernel
theorem dX10_digitIn_20 : decode cX10_digitIn 20 = .ok (.bipush 48, 2) := by decide +kernel
theorem dX10_digitIn_22 : decode cX10_digitIn 22 = .ok (.isub, 1) := by decide +kernel
theorem dX10_digitIn_23 : decode cX10_digitIn 23 = .ok (.i2l, 1) := by decide +kernel
theorem dX10_digitIn_24 : decode cX10_digitIn 24 = .ok (.iload_n 1, 1) := by decide +kernel
theorem dX10_digitIn_25 : decode cX10_digitIn 25 = .ok (.i2l, 1) := by decide +kernel
theorem dX10_digitIn_26 : decode cX10_digitIn 26 = .ok (.iload_n 2, 1) := by decide +kernel
theorem dX10_digitIn_27 : decode cX10_digitIn 27 = .ok (.i2l, 1) := by decide +kernel
theorem dX10_digitIn_28 : decode cX10_digitIn 28 = .ok (.invokestatic 123, 3) := by decide +kernel
theorem dX10_digitIn_31 : decode cX10_digitIn 31 = .ok (.ifCond .ne 5, 3) := by decide +kernel
theorem dX10_digitIn_34 : decode cX10_digitIn 34 = .ok (.iconst (-1), 1) := by decide +kernel
theorem dX10_digitIn_35 : decode cX10_digitIn 35 = .ok (.ireturn, 1) := by decide +kernel
theorem dX10_digitIn_36 : decode cX10_digitIn 36 = .ok (.aload_n 0, 1) := by decide +kernel
theorem dX10_digitIn_37 : decode cX10_digitIn 37 = .ok (.dup, 1) := by decide +kernel
theorem dX10_digitIn_38 : decode cX10_digitIn 38 = .ok (.getfield 130, 3) := by decide +kernel
theorem dX10_digitIn_41 : decode cX10_digitIn 41 = .ok (.iconst 1, 1) := by decide +kernel
theorem dX10_digitIn_42 : decode cX10_digitIn 42 = .ok (.iadd, 1) := by decide +kernel
theorem dX10_digitIn_43 : decode cX10_digitIn 43 = .ok (.putfield 130, 3) := by decide +kernel
theorem dX10_digitIn_46 : decode cX10_digitIn 46 = .ok (.aload_n 0, 1) := by decide +kernel
theorem dX10_digitIn_47 : decode cX10_digitIn 47 = .ok (.getfield 47, 3) := by decide +kernel
theorem dX10_digitIn_50 : decode cX10_digitIn 50 = .ok (.aload_n 0, 1) := by decide +kernel
theorem dX10_digitIn_51 : decode cX10_digitIn 51 = .ok (.getfield 130, 3) := by decide +kernel
theorem dX10_digitIn_54 : decode cX10_digitIn 54 = .ok (.iconst 1, 1) := by decide +kernel
theorem dX10_digitIn_55 : decode cX10_digitIn 55 = .ok (.isub, 1) := by decide +kernel
theorem dX10_digitIn_56 : decode cX10_digitIn 56 = .ok (.iaload, 1) := by decide +kernel
theorem dX10_digitIn_57 : decode cX10_digitIn 57 = .ok (.bipush 48, 2) := by decide +kernel
theorem dX10_digitIn_59 : decode cX10_digitIn 59 = .ok (.isub, 1) := by decide +kernel
theorem dX10_digitIn_60 : decode cX10_digitIn 60 = .ok (.ireturn, 1) := by decide +kernel
theorem dX10_faultOf_0 : decode cX10_faultOf 0 = .ok (.iload_n 3, 1) := by decide +kernel
theorem dX10_faultOf_1 : decode cX10_faultOf 1 = .ok (.ifCond .eq 18, 3) := by decide +kernel
theorem dX10_faultOf_4 : decode cX10_faultOf 4 = .ok (.aload_n 0, 1) := by decide +kernel
theorem dX10_faultOf_5 : decode cX10_faultOf 5 = .ok (.getfield 130, 3) := by decide +kernel
theorem dX10_faultOf_8 : decode cX10_faultOf 8 = .ok (.aload_n 0, 1) := by decide +kernel
theorem dX10_faultOf_9 : decode cX10_faultOf 9 = .ok (.getfield 142, 3) := by decide +kernel
theorem dX10_faultOf_12 : decode cX10_faultOf 12 = .ok (.if_icmp .ne 7, 3) := by decide +kernel
theorem dX10_faultOf_15 : decode cX10_faultOf 15 = .ok (.iconst 1, 1) := by decide +kernel
theorem dX10_faultOf_16 : decode cX10_faultOf 16 = .ok (.goto 4, 3) := by decide +kernel
theorem dX10_faultOf_19 : decode cX10_faultOf 19 = .ok (.iconst 0, 1) := by decide +kernel
theorem dX10_faultOf_20 : decode cX10_faultOf 20 = .ok (.istore 4, 2) := by decide +kernel
theorem dX10_faultOf_22 : decode cX10_faultOf 22 = .ok (.iload_n 1, 1) := by decide +kernel
theorem dX10_faultOf_23 : decode cX10_faultOf 23 = .ok (.iload_n 2, 1) := by decide +kernel
theorem dX10_faultOf_24 : decode cX10_faultOf 24 = .ok (.if_icmp .le 20, 3) := by decide +kernel
theorem dX10_faultOf_27 : decode cX10_faultOf 27 = .ok (.iload 4, 2) := by decide +kernel
theorem dX10_faultOf_29 : decode cX10_faultOf 29 = .ok (.ifCond .ne 11, 3) := by decide +kernel
theorem dX10_faultOf_32 : decode cX10_faultOf 32 = .ok (.aload_n 0, 1) := by decide +kernel
theorem dX10_faultOf_33 : decode cX10_faultOf 33 = .ok (.getfield 130, 3) := by decide +kernel
theorem dX10_faultOf_36 : decode cX10_faultOf 36 = .ok (.iload_n 2, 1) := by decide +kernel
theorem dX10_faultOf_37 : decode cX10_faultOf 37 = .ok (.if_icmp .lt 7, 3) := by decide +kernel
theorem dX10_faultOf_40 : decode cX10_faultOf 40 = .ok (.iconst (-1), 1) := by decide +kernel
theorem dX10_faultOf_41 : decode cX10_faultOf 41 = .ok (.iload_n 2, 1) := by decide +kernel
theorem dX10_faultOf_42 : decode cX10_faultOf 42 = .ok (.isub, 1) := by decide +kernel
theorem dX10_faultOf_43 : decode cX10_faultOf 43 = .ok (.ireturn, 1) := by decide +kernel
theorem dX10_faultOf_44 : decode cX10_faultOf 44 = .ok (.iload 4, 2) := by decide +kernel
theorem dX10_faultOf_46 : decode cX10_faultOf 46 = .ok (.ifCond .eq 7, 3) := by decide +kernel
theorem dX10_faultOf_49 : decode cX10_faultOf 49 = .ok (.iconst 0, 1) := by decide +kernel
theorem dX10_faultOf_50 : decode cX10_faultOf 50 = .ok (.goto 9, 3) := by decide +kernel
theorem dX10_faultOf_53 : decode cX10_faultOf 53 = .ok (.iconst (-1), 1) := by decide +kernel
theorem dX10_faultOf_54 : decode cX10_faultOf 54 = .ok (.aload_n 0, 1) := by decide +kernel
theorem dX10_faultOf_55 : decode cX10_faultOf 55 = .ok (.getfield 130, 3) := by decide +kernel
theorem dX10_faultOf_58 : decode cX10_faultOf 58 = .ok (.isub, 1) := by decide +kernel
theorem dX10_faultOf_59 : decode cX10_faultOf 59 = .ok (.ireturn, 1) := by decide +kernel
theorem dX10_readsMarket_0 : decode cX10_readsMarket 0 = .ok (.aload_n 0, 1) := by decide +kernel
theorem dX10_readsMarket_1 : decode cX10_readsMarket 1 = .ok (.getfield 120, 3) := by decide +kernel
theorem dX10_readsMarket_4 : decode cX10_readsMarket 4 = .ok (.aload_n 0, 1) := by decide +kernel
theorem dX10_readsMarket_5 : decode cX10_readsMarket 5 = .ok (.getfield 171, 3) := by decide +kernel
theorem dX10_readsMarket_8 : decode cX10_readsMarket 8 = .ok (.iadd, 1) := by decide +kernel
theorem dX10_readsMarket_9 : decode cX10_readsMarket 9 = .ok (.bipush 6, 2) := by decide +kernel
theorem dX10_readsMarket_11 : decode cX10_readsMarket 11 = .ok (.if_icmp .ne 5, 3) := by decide +kernel
theorem dX10_readsMarket_14 : decode cX10_readsMarket 14 = .ok (.iconst 0, 1) := by decide +kernel
theorem dX10_readsMarket_15 : decode cX10_readsMarket 15 = .ok (.ireturn, 1) := by decide +kernel
theorem dX10_readsMarket_16 : decode cX10_readsMarket 16 = .ok (.aload_n 0, 1) := by decide +kernel
theorem dX10_readsMarket_17 : decode cX10_readsMarket 17 = .ok (.getfield 50, 3) := by decide +kernel
theorem dX10_readsMarket_20 : decode cX10_readsMarket 20 = .ok (.aload_n 0, 1) := by decide +kernel
theorem dX10_readsMarket_21 : decode cX10_readsMarket 21 = .ok (.getfield 171, 3) := by decide +kernel
theorem dX10_readsMarket_24 : decode cX10_readsMarket 24 = .ok (.aload_n 0, 1) := by decide +kernel
theorem dX10_readsMarket_25 : decode cX10_readsMarket 25 = .ok (.iconst 2, 1) := by decide +kernel
theorem dX10_readsMarket_26 : decode cX10_readsMarket 26 = .ok (.invokevirtual 174, 3) := by decide +kernel
theorem dX10_readsMarket_29 : decode cX10_readsMarket 29 = .ok (.iastore, 1) := by decide +kernel
theorem dX10_readsMarket_30 : decode cX10_readsMarket 30 = .ok (.aload_n 0, 1) := by decide +kernel
theorem dX10_readsMarket_31 : decode cX10_readsMarket 31 = .ok (.dup, 1) := by decide +kernel
theorem dX10_readsMarket_32 : decode cX10_readsMarket 32 = .ok (.getfield 171, 3) := by decide +kernel
theorem dX10_readsMarket_35 : decode cX10_readsMarket 35 = .ok (.iconst 1, 1) := by decide +kernel
theorem dX10_readsMarket_36 : decode cX10_readsMarket 36 = .ok (.iadd, 1) := by decide +kernel
theorem dX10_readsMarket_37 : decode cX10_readsMarket 37 = .ok (.putfield 171, 3) := by decide +kernel
theorem dX10_readsMarket_40 : decode cX10_readsMarket 40 = .ok (.aload_n 0, 1) := by decide +kernel
theorem dX10_readsMarket_41 : decode cX10_readsMarket 41 = .ok (.getfield 50, 3) := by decide +kernel
theorem dX10_readsMarket_44 : decode cX10_readsMarket 44 = .ok (.aload_n 0, 1) := by decide +kernel
theorem dX10_readsMarket_45 : decode cX10_readsMarket 45 = .ok (.getfield 171, 3) := by decide +kernel
theorem dX10_readsMarket_48 : decode cX10_readsMarket 48 = .ok (.iconst 1, 1) := by decide +kernel
theorem dX10_readsMarket_49 : decode cX10_readsMarket 49 = .ok (.isub, 1) := by decide +kernel
theorem dX10_readsMarket_50 : decode cX10_readsMarket 50 = .ok (.iaload, 1) := by decide +kernel
theorem dX10_readsMarket_51 : decode cX10_readsMarket 51 = .ok (.ifCond .lt 7, 3) := by decide +kernel
theorem dX10_readsMarket_54 : decode cX10_readsMarket 54 = .ok (.iconst 1, 1) := by decide +kernel
theorem dX10_readsMarket_55 : decode cX10_readsMarket 55 = .ok (.goto 4, 3) := by decide +kernel
theorem dX10_readsMarket_58 : decode cX10_readsMarket 58 = .ok (.iconst 0, 1) := by decide +kernel
theorem dX10_readsMarket_59 : decode cX10_readsMarket 59 = .ok (.ireturn, 1) := by decide +kernel
theorem dX10_markets_0 : decode cX10_markets 0 = .ok (.aload_n 0, 1) := by decide +kernel
theorem dX10_markets_1 : decode cX10_markets 1 = .ok (.iconst 0, 1) := by decide +kernel
theorem dX10_markets_2 : decode cX10_markets 2 = .ok (.putfield 3, 3) := by decide +kernel
theorem dX10_markets_5 : decode cX10_markets 5 = .ok (.aload_n 0, 1) := by decide +kernel
theorem dX10_markets_6 : decode cX10_markets 6 = .ok (.bipush 17, 2) := by decide +kernel
theorem dX10_markets_8 : decode cX10_markets 8 = .ok (.invokevirtual 177, 3) := by decide +kernel
theorem dX10_markets_11 : decode cX10_markets 11 = .ok (.istore_n 1, 1) := by decide +kernel
theorem dX10_markets_12 : decode cX10_markets 12 = .ok (.aload_n 0, 1) := by decide +kernel
theorem dX10_markets_13 : decode cX10_markets 13 = .ok (.iconst 0, 1) := by decide +kernel
theorem dX10_markets_14 : decode cX10_markets 14 = .ok (.putfield 171, 3) := by decide +kernel
theorem dX10_markets_17 : decode cX10_markets 17 = .ok (.iconst 1, 1) := by decide +kernel
theorem dX10_markets_18 : decode cX10_markets 18 = .ok (.istore_n 2, 1) := by decide +kernel
theorem dX10_markets_19 : decode cX10_markets 19 = .ok (.iload_n 1, 1) := by decide +kernel
theorem dX10_markets_20 : decode cX10_markets 20 = .ok (.ifCond .le 7, 3) := by decide +kernel
theorem dX10_markets_23 : decode cX10_markets 23 = .ok (.iconst 1, 1) := by decide +kernel
theorem dX10_markets_24 : decode cX10_markets 24 = .ok (.goto 4, 3) := by decide +kernel
theorem dX10_markets_27 : decode cX10_markets 27 = .ok (.iconst 0, 1) := by decide +kernel
theorem dX10_markets_28 : decode cX10_markets 28 = .ok (.istore_n 3, 1) := by decide +kernel
theorem dX10_markets_29 : decode cX10_markets 29 = .ok (.iload_n 3, 1) := by decide +kernel
theorem dX10_markets_30 : decode cX10_markets 30 = .ok (.ifCond .eq 30, 3) := by decide +kernel
theorem dX10_markets_33 : decode cX10_markets 33 = .ok (.aload_n 0, 1) := by decide +kernel
theorem dX10_markets_34 : decode cX10_markets 34 = .ok (.invokevirtual 180, 3) := by decide +kernel
theorem dX10_markets_37 : decode cX10_markets 37 = .ok (.istore_n 2, 1) := by decide +kernel
theorem dX10_markets_38 : decode cX10_markets 38 = .ok (.iload_n 2, 1) := by decide +kernel
theorem dX10_markets_39 : decode cX10_markets 39 = .ok (.ifCond .eq 16, 3) := by decide +kernel
theorem dX10_markets_42 : decode cX10_markets 42 = .ok (.aload_n 0, 1) := by decide +kernel
theorem dX10_markets_43 : decode cX10_markets 43 = .ok (.bipush 59, 2) := by decide +kernel
theorem dX10_markets_45 : decode cX10_markets 45 = .ok (.invokevirtual 183, 3) := by decide +kernel
theorem dX10_markets_48 : decode cX10_markets 48 = .ok (.ifCond .eq 7, 3) := by decide +kernel
theorem dX10_markets_51 : decode cX10_markets 51 = .ok (.iconst 1, 1) := by decide +kernel
theorem dX10_markets_52 : decode cX10_markets 52 = .ok (.goto 4, 3) := by decide +kernel
theorem dX10_markets_55 : decode cX10_markets 55 = .ok (.iconst 0, 1) := by decide +kernel
theorem dX10_markets_56 : decode cX10_markets 56 = .ok (.istore_n 3, 1) := by decide +kernel
theorem dX10_markets_57 : decode cX10_markets 57 = .ok (.goto (-28), 3) := by decide +kernel
theorem dX10_markets_60 : decode cX10_markets 60 = .ok (.aload_n 0, 1) := by decide +kernel
theorem dX10_markets_61 : decode cX10_markets 61 = .ok (.iload_n 1, 1) := by decide +kernel
theorem dX10_markets_62 : decode cX10_markets 62 = .ok (.bipush 17, 2) := by decide +kernel
theorem dX10_markets_64 : decode cX10_markets 64 = .ok (.iload_n 2, 1) := by decide +kernel
theorem dX10_markets_65 : decode cX10_markets 65 = .ok (.invokevirtual 187, 3) := by decide +kernel
theorem dX10_markets_68 : decode cX10_markets 68 = .ok (.istore 4, 2) := by decide +kernel
theorem dX10_markets_70 : decode cX10_markets 70 = .ok (.iload 4, 2) := by decide +kernel
theorem dX10_markets_72 : decode cX10_markets 72 = .ok (.ifCond .ge 6, 3) := by decide +kernel
theorem dX10_markets_75 : decode cX10_markets 75 = .ok (.iload 4, 2) := by decide +kernel
theorem dX10_markets_77 : decode cX10_markets 77 = .ok (.ireturn, 1) := by decide +kernel
theorem dX10_markets_78 : decode cX10_markets 78 = .ok (.iconst 0, 1) := by decide +kernel
theorem dX10_markets_79 : decode cX10_markets 79 = .ok (.istore 5, 2) := by decide +kernel
theorem dX10_markets_81 : decode cX10_markets 81 = .ok (.iload 5, 2) := by decide +kernel
theorem dX10_markets_83 : decode cX10_markets 83 = .ok (.aload_n 0, 1) := by decide +kernel
theorem dX10_markets_84 : decode cX10_markets 84 = .ok (.getfield 171, 3) := by decide +kernel
theorem dX10_markets_87 : decode cX10_markets 87 = .ok (.if_icmp .ge 66, 3) := by decide +kernel
theorem dX10_markets_90 : decode cX10_markets 90 = .ok (.aload_n 0, 1) := by decide +kernel
theorem dX10_markets_91 : decode cX10_markets 91 = .ok (.getfield 38, 3) := by decide +kernel
theorem dX10_markets_94 : decode cX10_markets 94 = .ok (.aload_n 0, 1) := by decide +kernel
theorem dX10_markets_95 : decode cX10_markets 95 = .ok (.getfield 120, 3) := by decide +kernel
theorem dX10_markets_98 : decode cX10_markets 98 = .ok (.aload_n 0, 1) := by decide +kernel
theorem dX10_markets_99 : decode cX10_markets 99 = .ok (.getfield 50, 3) := by decide +kernel
theorem dX10_markets_102 : decode cX10_markets 102 = .ok (.iload 5, 2) := by decide +kernel
theorem dX10_markets_104 : decode cX10_markets 104 = .ok (.iaload, 1) := by decide +kernel
theorem dX10_markets_105 : decode cX10_markets 105 = .ok (.iastore, 1) := by decide +kernel
theorem dX10_markets_106 : decode cX10_markets 106 = .ok (.iconst 0, 1) := by decide +kernel
theorem dX10_markets_107 : decode cX10_markets 107 = .ok (.istore 6, 2) := by decide +kernel
theorem dX10_markets_109 : decode cX10_markets 109 = .ok (.iload 6, 2) := by decide +kernel
theorem dX10_markets_111 : decode cX10_markets 111 = .ok (.iconst 4, 1) := by decide +kernel
theorem dX10_markets_112 : decode cX10_markets 112 = .ok (.if_icmp .ge 25, 3) := by decide +kernel
theorem dX10_markets_115 : decode cX10_markets 115 = .ok (.aload_n 0, 1) := by decide +kernel
theorem dX10_markets_116 : decode cX10_markets 116 = .ok (.getfield 41, 3) := by decide +kernel
theorem dX10_markets_119 : decode cX10_markets 119 = .ok (.bipush 6, 2) := by decide +kernel
theorem dX10_markets_121 : decode cX10_markets 121 = .ok (.iload 6, 2) := by decide +kernel
theorem dX10_markets_123 : decode cX10_markets 123 = .ok (.imul, 1) := by decide +kernel
theorem dX10_markets_124 : decode cX10_markets 124 = .ok (.aload_n 0, 1) := by decide +kernel
theorem dX10_markets_125 : decode cX10_markets 125 = .ok (.getfield 120, 3) := by decide +kernel
theorem dX10_markets_128 : decode cX10_markets 128 = .ok (.iadd, 1) := by decide +kernel
theorem dX10_markets_129 : decode cX10_markets 129 = .ok (.iconst 0, 1) := by decide +kernel
theorem dX10_markets_130 : decode cX10_markets 130 = .ok (.iastore, 1) := by decide +kernel
theorem dX10_markets_131 : decode cX10_markets 131 = .ok (.iinc 6 1, 3) := by decide +kernel
theorem dX10_markets_134 : decode cX10_markets 134 = .ok (.goto (-25), 3) := by decide +kernel
theorem dX10_markets_137 : decode cX10_markets 137 = .ok (.aload_n 0, 1) := by decide +kernel
theorem dX10_markets_138 : decode cX10_markets 138 = .ok (.dup, 1) := by decide +kernel
theorem dX10_markets_139 : decode cX10_markets 139 = .ok (.getfield 120, 3) := by decide +kernel
theorem dX10_markets_142 : decode cX10_markets 142 = .ok (.iconst 1, 1) := by decide +kernel
theorem dX10_markets_143 : decode cX10_markets 143 = .ok (.iadd, 1) := by decide +kernel
theorem dX10_markets_144 : decode cX10_markets 144 = .ok (.putfield 120, 3) := by decide +kernel
theorem dX10_markets_147 : decode cX10_markets 147 = .ok (.iinc 5 1, 3) := by decide +kernel
theorem dX10_markets_150 : decode cX10_markets 150 = .ok (.goto (-69), 3) := by decide +kernel
theorem dX10_markets_153 : decode cX10_markets 153 = .ok (.aload_n 0, 1) := by decide +kernel
theorem dX10_markets_154 : decode cX10_markets 154 = .ok (.getfield 171, 3) := by decide +kernel
theorem dX10_markets_157 : decode cX10_markets 157 = .ok (.ifCond .le 18, 3) := by decide +kernel
theorem dX10_markets_160 : decode cX10_markets 160 = .ok (.aload_n 0, 1) := by decide +kernel
theorem dX10_markets_161 : decode cX10_markets 161 = .ok (.iconst 0, 1) := by decide +kernel
theorem dX10_markets_162 : decode cX10_markets 162 = .ok (.putfield 191, 3) := by decide +kernel
theorem dX10_markets_165 : decode cX10_markets 165 = .ok (.aload_n 0, 1) := by decide +kernel
theorem dX10_markets_166 : decode cX10_markets 166 = .ok (.dup, 1) := by decide +kernel
theorem dX10_markets_167 : decode cX10_markets 167 = .ok (.getfield 194, 3) := by decide +kernel
theorem dX10_markets_170 : decode cX10_markets 170 = .ok (.iconst 1, 1) := by decide +kernel
theorem dX10_markets_171 : decode cX10_markets 171 = .ok (.iadd, 1) := by decide +kernel
theorem dX10_markets_172 : decode cX10_markets 172 = .ok (.putfield 194, 3) := by decide +kernel
theorem dX10_markets_175 : decode cX10_markets 175 = .ok (.aload_n 0, 1) := by decide +kernel
theorem dX10_markets_176 : decode cX10_markets 176 = .ok (.getfield 171, 3) := by decide +kernel
theorem dX10_markets_179 : decode cX10_markets 179 = .ok (.ireturn, 1) := by decide +kernel
theorem dX10_readsLoad_0 : decode cX10_readsLoad 0 = .ok (.aload_n 0, 1) := by decide +kernel
theorem dX10_readsLoad_1 : decode cX10_readsLoad 1 = .ok (.getfield 171, 3) := by decide +kernel
theorem dX10_readsLoad_4 : decode cX10_readsLoad 4 = .ok (.bipush 8, 2) := by decide +kernel
theorem dX10_readsLoad_6 : decode cX10_readsLoad 6 = .ok (.if_icmp .ne 5, 3) := by decide +kernel
theorem dX10_readsLoad_9 : decode cX10_readsLoad 9 = .ok (.iconst 0, 1) := by decide +kernel
theorem dX10_readsLoad_10 : decode cX10_readsLoad 10 = .ok (.ireturn, 1) := by decide +kernel
theorem dX10_readsLoad_11 : decode cX10_readsLoad 11 = .ok (.aload_n 0, 1) := by decide +kernel
theorem dX10_readsLoad_12 : decode cX10_readsLoad 12 = .ok (.getfield 171, 3) := by decide +kernel
theorem dX10_readsLoad_15 : decode cX10_readsLoad 15 = .ok (.istore_n 1, 1) := by decide +kernel
theorem dX10_readsLoad_16 : decode cX10_readsLoad 16 = .ok (.aload_n 0, 1) := by decide +kernel
theorem dX10_readsLoad_17 : decode cX10_readsLoad 17 = .ok (.getfield 53, 3) := by decide +kernel
theorem dX10_readsLoad_20 : decode cX10_readsLoad 20 = .ok (.iload_n 1, 1) := by decide +kernel
theorem dX10_readsLoad_21 : decode cX10_readsLoad 21 = .ok (.iconst 0, 1) := by decide +kernel
theorem dX10_readsLoad_22 : decode cX10_readsLoad 22 = .ok (.iastore, 1) := by decide +kernel
theorem dX10_readsLoad_23 : decode cX10_readsLoad 23 = .ok (.aload_n 0, 1) := by decide +kernel
theorem dX10_readsLoad_24 : decode cX10_readsLoad 24 = .ok (.getfield 50, 3) := by decide +kernel
theorem dX10_readsLoad_27 : decode cX10_readsLoad 27 = .ok (.iload_n 1, 1) := by decide +kernel
theorem dX10_readsLoad_28 : decode cX10_readsLoad 28 = .ok (.aload_n 0, 1) := by decide +kernel
theorem dX10_readsLoad_29 : decode cX10_readsLoad 29 = .ok (.bipush 46, 2) := by decide +kernel
theorem dX10_readsLoad_31 : decode cX10_readsLoad 31 = .ok (.invokevirtual 183, 3) := by decide +kernel
theorem dX10_readsLoad_34 : decode cX10_readsLoad 34 = .ok (.ifCond .eq 7, 3) := by decide +kernel
theorem dX10_readsLoad_37 : decode cX10_readsLoad 37 = .ok (.iconst 2, 1) := by decide +kernel
theorem dX10_readsLoad_38 : decode cX10_readsLoad 38 = .ok (.goto 9, 3) := by decide +kernel
theorem dX10_readsLoad_41 : decode cX10_readsLoad 41 = .ok (.aload_n 0, 1) := by decide +kernel
theorem dX10_readsLoad_42 : decode cX10_readsLoad 42 = .ok (.ldc 197, 2) := by decide +kernel
theorem dX10_readsLoad_44 : decode cX10_readsLoad 44 = .ok (.invokevirtual 199, 3) := by decide +kernel
theorem dX10_readsLoad_47 : decode cX10_readsLoad 47 = .ok (.iastore, 1) := by decide +kernel
theorem dX10_readsLoad_48 : decode cX10_readsLoad 48 = .ok (.aload_n 0, 1) := by decide +kernel
theorem dX10_readsLoad_49 : decode cX10_readsLoad 49 = .ok (.getfield 50, 3) := by decide +kernel
theorem dX10_readsLoad_52 : decode cX10_readsLoad 52 = .ok (.iload_n 1, 1) := by decide +kernel
theorem dX10_readsLoad_53 : decode cX10_readsLoad 53 = .ok (.iaload, 1) := by decide +kernel
theorem dX10_readsLoad_54 : decode cX10_readsLoad 54 = .ok (.ifCond .eq 13, 3) := by decide +kernel
theorem dX10_readsLoad_57 : decode cX10_readsLoad 57 = .ok (.aload_n 0, 1) := by decide +kernel
theorem dX10_readsLoad_58 : decode cX10_readsLoad 58 = .ok (.getfield 50, 3) := by decide +kernel
theorem dX10_readsLoad_61 : decode cX10_readsLoad 61 = .ok (.iload_n 1, 1) := by decide +kernel
theorem dX10_readsLoad_62 : decode cX10_readsLoad 62 = .ok (.iaload, 1) := by decide +kernel
theorem dX10_readsLoad_63 : decode cX10_readsLoad 63 = .ok (.iconst 1, 1) := by decide +kernel
theorem dX10_readsLoad_64 : decode cX10_readsLoad 64 = .ok (.if_icmp .ne 14, 3) := by decide +kernel
theorem dX10_readsLoad_67 : decode cX10_readsLoad 67 = .ok (.aload_n 0, 1) := by decide +kernel
theorem dX10_readsLoad_68 : decode cX10_readsLoad 68 = .ok (.getfield 53, 3) := by decide +kernel
theorem dX10_readsLoad_71 : decode cX10_readsLoad 71 = .ok (.iload_n 1, 1) := by decide +kernel
theorem dX10_readsLoad_72 : decode cX10_readsLoad 72 = .ok (.aload_n 0, 1) := by decide +kernel
theorem dX10_readsLoad_73 : decode cX10_readsLoad 73 = .ok (.iconst 3, 1) := by decide +kernel
theorem dX10_readsLoad_74 : decode cX10_readsLoad 74 = .ok (.invokevirtual 167, 3) := by decide +kernel
theorem dX10_readsLoad_77 : decode cX10_readsLoad 77 = .ok (.iastore, 1) := by decide +kernel
theorem dX10_readsLoad_78 : decode cX10_readsLoad 78 = .ok (.aload_n 0, 1) := by decide +kernel
theorem dX10_readsLoad_79 : decode cX10_readsLoad 79 = .ok (.dup, 1) := by decide +kernel
theorem dX10_readsLoad_80 : decode cX10_readsLoad 80 = .ok (.getfield 171, 3) := by decide +kernel
theorem dX10_readsLoad_83 : decode cX10_readsLoad 83 = .ok (.iconst 1, 1) := by decide +kernel
theorem dX10_readsLoad_84 : decode cX10_readsLoad 84 = .ok (.iadd, 1) := by decide +kernel
theorem dX10_readsLoad_85 : decode cX10_readsLoad 85 = .ok (.putfield 171, 3) := by decide +kernel
theorem dX10_readsLoad_88 : decode cX10_readsLoad 88 = .ok (.aload_n 0, 1) := by decide +kernel
theorem dX10_readsLoad_89 : decode cX10_readsLoad 89 = .ok (.getfield 50, 3) := by decide +kernel
theorem dX10_readsLoad_92 : decode cX10_readsLoad 92 = .ok (.iload_n 1, 1) := by decide +kernel
theorem dX10_readsLoad_93 : decode cX10_readsLoad 93 = .ok (.iaload, 1) := by decide +kernel
theorem dX10_readsLoad_94 : decode cX10_readsLoad 94 = .ok (.ifCond .lt 16, 3) := by decide +kernel
theorem dX10_readsLoad_97 : decode cX10_readsLoad 97 = .ok (.aload_n 0, 1) := by decide +kernel
theorem dX10_readsLoad_98 : decode cX10_readsLoad 98 = .ok (.getfield 53, 3) := by decide +kernel
theorem dX10_readsLoad_101 : decode cX10_readsLoad 101 = .ok (.iload_n 1, 1) := by decide +kernel
theorem dX10_readsLoad_102 : decode cX10_readsLoad 102 = .ok (.iaload, 1) := by decide +kernel
theorem dX10_readsLoad_103 : decode cX10_readsLoad 103 = .ok (.ifCond .lt 7, 3) := by decide +kernel
theorem dX10_readsLoad_106 : decode cX10_readsLoad 106 = .ok (.iconst 1, 1) := by decide +kernel
theorem dX10_readsLoad_107 : decode cX10_readsLoad 107 = .ok (.goto 4, 3) := by decide +kernel
theorem dX10_readsLoad_110 : decode cX10_readsLoad 110 = .ok (.iconst 0, 1) := by decide +kernel
theorem dX10_readsLoad_111 : decode cX10_readsLoad 111 = .ok (.ireturn, 1) := by decide +kernel
theorem dX10_ships_0 : decode cX10_ships 0 = .ok (.aload_n 0, 1) := by decide +kernel
theorem dX10_ships_1 : decode cX10_ships 1 = .ok (.iconst 0, 1) := by decide +kernel
theorem dX10_ships_2 : decode cX10_ships 2 = .ok (.putfield 3, 3) := by decide +kernel
theorem dX10_ships_5 : decode cX10_ships 5 = .ok (.aload_n 0, 1) := by decide +kernel
theorem dX10_ships_6 : decode cX10_ships 6 = .ok (.bipush 32, 2) := by decide +kernel
theorem dX10_ships_8 : decode cX10_ships 8 = .ok (.invokevirtual 177, 3) := by decide +kernel
theorem dX10_ships_11 : decode cX10_ships 11 = .ok (.istore_n 1, 1) := by decide +kernel
theorem dX10_ships_12 : decode cX10_ships 12 = .ok (.aload_n 0, 1) := by decide +kernel
theorem dX10_ships_13 : decode cX10_ships 13 = .ok (.iconst 0, 1) := by decide +kernel
theorem dX10_ships_14 : decode cX10_ships 14 = .ok (.putfield 171, 3) := by decide +kernel
theorem dX10_ships_17 : decode cX10_ships 17 = .ok (.iconst 1, 1) := by decide +kernel
theorem dX10_ships_18 : decode cX10_ships 18 = .ok (.istore_n 2, 1) := by decide +kernel
theorem dX10_ships_19 : decode cX10_ships 19 = .ok (.iload_n 2, 1) := by decide +kernel
theorem dX10_ships_20 : decode cX10_ships 20 = .ok (.ifCond .eq 29, 3) := by decide +kernel
theorem dX10_ships_23 : decode cX10_ships 23 = .ok (.aload_n 0, 1) := by decide +kernel
theorem dX10_ships_24 : decode cX10_ships 24 = .ok (.getfield 130, 3) := by decide +kernel
theorem dX10_ships_27 : decode cX10_ships 27 = .ok (.aload_n 0, 1) := by decide +kernel
theorem dX10_ships_28 : decode cX10_ships 28 = .ok (.getfield 142, 3) := by decide +kernel
theorem dX10_ships_31 : decode cX10_ships 31 = .ok (.if_icmp .lt 10, 3) := by decide +kernel
theorem dX10_ships_34 : decode cX10_ships 34 = .ok (.aload_n 0, 1) := by decide +kernel
theorem dX10_ships_35 : decode cX10_ships 35 = .ok (.getfield 171, 3) := by decide +kernel
theorem dX10_ships_38 : decode cX10_ships 38 = .ok (.ifCond .ne 11, 3) := by decide +kernel
theorem dX10_ships_41 : decode cX10_ships 41 = .ok (.aload_n 0, 1) := by decide +kernel
theorem dX10_ships_42 : decode cX10_ships 42 = .ok (.invokevirtual 203, 3) := by decide +kernel
theorem dX10_ships_45 : decode cX10_ships 45 = .ok (.istore_n 2, 1) := by decide +kernel
theorem dX10_ships_46 : decode cX10_ships 46 = .ok (.goto (-27), 3) := by decide +kernel
theorem dX10_ships_49 : decode cX10_ships 49 = .ok (.aload_n 0, 1) := by decide +kernel
theorem dX10_ships_50 : decode cX10_ships 50 = .ok (.iload_n 1, 1) := by decide +kernel
theorem dX10_ships_51 : decode cX10_ships 51 = .ok (.bipush 32, 2) := by decide +kernel
theorem dX10_ships_53 : decode cX10_ships 53 = .ok (.iload_n 2, 1) := by decide +kernel
theorem dX10_ships_54 : decode cX10_ships 54 = .ok (.invokevirtual 187, 3) := by decide +kernel
theorem dX10_ships_57 : decode cX10_ships 57 = .ok (.istore_n 3, 1) := by decide +kernel
theorem dX10_ships_58 : decode cX10_ships 58 = .ok (.iload_n 3, 1) := by decide +kernel
theorem dX10_ships_59 : decode cX10_ships 59 = .ok (.ifCond .ge 5, 3) := by decide +kernel
theorem dX10_ships_62 : decode cX10_ships 62 = .ok (.iload_n 3, 1) := by decide +kernel
theorem dX10_ships_63 : decode cX10_ships 63 = .ok (.ireturn, 1) := by decide +kernel
theorem dX10_ships_64 : decode cX10_ships 64 = .ok (.aload_n 0, 1) := by decide +kernel
theorem dX10_ships_65 : decode cX10_ships 65 = .ok (.aload_n 0, 1) := by decide +kernel
theorem dX10_ships_66 : decode cX10_ships 66 = .ok (.getfield 171, 3) := by decide +kernel
theorem dX10_ships_69 : decode cX10_ships 69 = .ok (.putfield 28, 3) := by decide +kernel
theorem dX10_ships_72 : decode cX10_ships 72 = .ok (.iconst 0, 1) := by decide +kernel
theorem dX10_ships_73 : decode cX10_ships 73 = .ok (.istore 4, 2) := by decide +kernel
theorem dX10_ships_75 : decode cX10_ships 75 = .ok (.iload 4, 2) := by decide +kernel
theorem dX10_ships_77 : decode cX10_ships 77 = .ok (.aload_n 0, 1) := by decide +kernel
theorem dX10_ships_78 : decode cX10_ships 78 = .ok (.getfield 171, 3) := by decide +kernel
theorem dX10_ships_81 : decode cX10_ships 81 = .ok (.if_icmp .ge 55, 3) := by decide +kernel
theorem dX10_ships_84 : decode cX10_ships 84 = .ok (.aload_n 0, 1) := by decide +kernel
theorem dX10_ships_85 : decode cX10_ships 85 = .ok (.getfield 31, 3) := by decide +kernel
theorem dX10_ships_88 : decode cX10_ships 88 = .ok (.iload 4, 2) := by decide +kernel
theorem dX10_ships_90 : decode cX10_ships 90 = .ok (.aload_n 0, 1) := by decide +kernel
theorem dX10_ships_91 : decode cX10_ships 91 = .ok (.getfield 50, 3) := by decide +kernel
theorem dX10_ships_94 : decode cX10_ships 94 = .ok (.iload 4, 2) := by decide +kernel
theorem dX10_ships_96 : decode cX10_ships 96 = .ok (.iaload, 1) := by decide +kernel
theorem dX10_ships_97 : decode cX10_ships 97 = .ok (.iconst 2, 1) := by decide +kernel
theorem dX10_ships_98 : decode cX10_ships 98 = .ok (.if_icmp .ne 7, 3) := by decide +kernel
theorem dX10_ships_101 : decode cX10_ships 101 = .ok (.iconst (-1), 1) := by decide +kernel
theorem dX10_ships_102 : decode cX10_ships 102 = .ok (.goto 10, 3) := by decide +kernel
theorem dX10_ships_105 : decode cX10_ships 105 = .ok (.aload_n 0, 1) := by decide +kernel
theorem dX10_ships_106 : decode cX10_ships 106 = .ok (.getfield 50, 3) := by decide +kernel
theorem dX10_ships_109 : decode cX10_ships 109 = .ok (.iload 4, 2) := by decide +kernel
theorem dX10_ships_111 : decode cX10_ships 111 = .ok (.iaload, 1) := by decide +kernel
theorem dX10_ships_112 : decode cX10_ships 112 = .ok (.iastore, 1) := by decide +kernel
theorem dX10_ships_113 : decode cX10_ships 113 = .ok (.aload_n 0, 1) := by decide +kernel
theorem dX10_ships_114 : decode cX10_ships 114 = .ok (.getfield 35, 3) := by decide +kernel
theorem dX10_ships_117 : decode cX10_ships 117 = .ok (.iload 4, 2) := by decide +kernel
theorem dX10_ships_119 : decode cX10_ships 119 = .ok (.bipush 10, 2) := by decide +kernel
theorem dX10_ships_121 : decode cX10_ships 121 = .ok (.aload_n 0, 1) := by decide +kernel
theorem dX10_ships_122 : decode cX10_ships 122 = .ok (.getfield 53, 3) := by decide +kernel
theorem dX10_ships_125 : decode cX10_ships 125 = .ok (.iload 4, 2) := by decide +kernel
theorem dX10_ships_127 : decode cX10_ships 127 = .ok (.iaload, 1) := by decide +kernel
theorem dX10_ships_128 : decode cX10_ships 128 = .ok (.imul, 1) := by decide +kernel
theorem dX10_ships_129 : decode cX10_ships 129 = .ok (.iastore, 1) := by decide +kernel
theorem dX10_ships_130 : decode cX10_ships 130 = .ok (.iinc 4 1, 3) := by decide +kernel
theorem dX10_ships_133 : decode cX10_ships 133 = .ok (.goto (-58), 3) := by decide +kernel
theorem dX10_ships_136 : decode cX10_ships 136 = .ok (.aload_n 0, 1) := by decide +kernel
theorem dX10_ships_137 : decode cX10_ships 137 = .ok (.getfield 28, 3) := by decide +kernel
theorem dX10_ships_140 : decode cX10_ships 140 = .ok (.ireturn, 1) := by decide +kernel
theorem dX10_codes_0 : decode cX10_codes 0 = .ok (.aload_n 0, 1) := by decide +kernel
theorem dX10_codes_1 : decode cX10_codes 1 = .ok (.getfield 59, 3) := by decide +kernel
theorem dX10_codes_4 : decode cX10_codes 4 = .ok (.aload_n 0, 1) := by decide +kernel
theorem dX10_codes_5 : decode cX10_codes 5 = .ok (.getfield 206, 3) := by decide +kernel
theorem dX10_codes_8 : decode cX10_codes 8 = .ok (.iload_n 1, 1) := by decide +kernel
theorem dX10_codes_9 : decode cX10_codes 9 = .ok (.iastore, 1) := by decide +kernel
theorem dX10_codes_10 : decode cX10_codes 10 = .ok (.aload_n 0, 1) := by decide +kernel
theorem dX10_codes_11 : decode cX10_codes 11 = .ok (.dup, 1) := by decide +kernel
theorem dX10_codes_12 : decode cX10_codes 12 = .ok (.getfield 206, 3) := by decide +kernel
theorem dX10_codes_15 : decode cX10_codes 15 = .ok (.iconst 1, 1) := by decide +kernel
theorem dX10_codes_16 : decode cX10_codes 16 = .ok (.iadd, 1) := by decide +kernel
theorem dX10_codes_17 : decode cX10_codes 17 = .ok (.putfield 206, 3) := by decide +kernel
theorem dX10_codes_20 : decode cX10_codes 20 = .ok (.return_, 1) := by decide +kernel
theorem dX10_readsThing_0 : decode cX10_readsThing 0 = .ok (.aload_n 0, 1) := by decide +kernel
theorem dX10_readsThing_1 : decode cX10_readsThing 1 = .ok (.bipush 45, 2) := by decide +kernel
theorem dX10_readsThing_3 : decode cX10_readsThing 3 = .ok (.invokevirtual 183, 3) := by decide +kernel
theorem dX10_readsThing_6 : decode cX10_readsThing 6 = .ok (.ifCond .eq 17, 3) := by decide +kernel
theorem dX10_readsThing_9 : decode cX10_readsThing 9 = .ok (.aload_n 0, 1) := by decide +kernel
theorem dX10_readsThing_10 : decode cX10_readsThing 10 = .ok (.invokevirtual 209, 3) := by decide +kernel
theorem dX10_readsThing_13 : decode cX10_readsThing 13 = .ok (.istore_n 1, 1) := by decide +kernel
theorem dX10_readsThing_14 : decode cX10_readsThing 14 = .ok (.aload_n 0, 1) := by decide +kernel
theorem dX10_readsThing_15 : decode cX10_readsThing 15 = .ok (.sipush 3000, 3) := by decide +kernel
theorem dX10_readsThing_18 : decode cX10_readsThing 18 = .ok (.invokevirtual 212, 3) := by decide +kernel
theorem dX10_readsThing_21 : decode cX10_readsThing 21 = .ok (.iload_n 1, 1) := by decide +kernel
theorem dX10_readsThing_22 : decode cX10_readsThing 22 = .ok (.ireturn, 1) := by decide +kernel
theorem dX10_readsThing_23 : decode cX10_readsThing 23 = .ok (.aload_n 0, 1) := by decide +kernel
theorem dX10_readsThing_24 : decode cX10_readsThing 24 = .ok (.invokevirtual 163, 3) := by decide +kernel
theorem dX10_readsThing_27 : decode cX10_readsThing 27 = .ok (.ifCond .eq 14, 3) := by decide +kernel
theorem dX10_readsThing_30 : decode cX10_readsThing 30 = .ok (.aload_n 0, 1) := by decide +kernel
theorem dX10_readsThing_31 : decode cX10_readsThing 31 = .ok (.aload_n 0, 1) := by decide +kernel
theorem dX10_readsThing_32 : decode cX10_readsThing 32 = .ok (.iconst 3, 1) := by decide +kernel
theorem dX10_readsThing_33 : decode cX10_readsThing 33 = .ok (.invokevirtual 167, 3) := by decide +kernel
theorem dX10_readsThing_36 : decode cX10_readsThing 36 = .ok (.invokevirtual 212, 3) := by decide +kernel
theorem dX10_readsThing_39 : decode cX10_readsThing 39 = .ok (.iconst 1, 1) := by decide +kernel
theorem dX10_readsThing_40 : decode cX10_readsThing 40 = .ok (.ireturn, 1) := by decide +kernel
theorem dX10_readsThing_41 : decode cX10_readsThing 41 = .ok (.aload_n 0, 1) := by decide +kernel
theorem dX10_readsThing_42 : decode cX10_readsThing 42 = .ok (.ldc 216, 2) := by decide +kernel
theorem dX10_readsThing_44 : decode cX10_readsThing 44 = .ok (.invokevirtual 199, 3) := by decide +kernel
theorem dX10_readsThing_47 : decode cX10_readsThing 47 = .ok (.istore_n 1, 1) := by decide +kernel
theorem dX10_readsThing_48 : decode cX10_readsThing 48 = .ok (.iload_n 1, 1) := by decide +kernel
theorem dX10_readsThing_49 : decode cX10_readsThing 49 = .ok (.ifCond .lt 14, 3) := by decide +kernel
theorem dX10_readsThing_52 : decode cX10_readsThing 52 = .ok (.aload_n 0, 1) := by decide +kernel
theorem dX10_readsThing_53 : decode cX10_readsThing 53 = .ok (.sipush 1000, 3) := by decide +kernel
theorem dX10_readsThing_56 : decode cX10_readsThing 56 = .ok (.iload_n 1, 1) := by decide +kernel
theorem dX10_readsThing_57 : decode cX10_readsThing 57 = .ok (.iadd, 1) := by decide +kernel
theorem dX10_readsThing_58 : decode cX10_readsThing 58 = .ok (.invokevirtual 212, 3) := by decide +kernel
theorem dX10_readsThing_61 : decode cX10_readsThing 61 = .ok (.iconst 1, 1) := by decide +kernel
theorem dX10_readsThing_62 : decode cX10_readsThing 62 = .ok (.ireturn, 1) := by decide +kernel
theorem dX10_readsThing_63 : decode cX10_readsThing 63 = .ok (.aload_n 0, 1) := by decide +kernel
theorem dX10_readsThing_64 : decode cX10_readsThing 64 = .ok (.getfield 133, 3) := by decide +kernel
theorem dX10_readsThing_67 : decode cX10_readsThing 67 = .ok (.iconst 4, 1) := by decide +kernel
theorem dX10_readsThing_68 : decode cX10_readsThing 68 = .ok (.if_icmp .eq 12, 3) := by decide +kernel
theorem dX10_readsThing_71 : decode cX10_readsThing 71 = .ok (.aload_n 0, 1) := by decide +kernel
theorem dX10_readsThing_72 : decode cX10_readsThing 72 = .ok (.bipush 40, 2) := by decide +kernel
theorem dX10_readsThing_74 : decode cX10_readsThing 74 = .ok (.invokevirtual 183, 3) := by decide +kernel
theorem dX10_readsThing_77 : decode cX10_readsThing 77 = .ok (.ifCond .ne 5, 3) := by decide +kernel
theorem dX10_readsThing_80 : decode cX10_readsThing 80 = .ok (.iconst 0, 1) := by decide +kernel
theorem dX10_readsThing_81 : decode cX10_readsThing 81 = .ok (.ireturn, 1) := by decide +kernel
theorem dX10_readsThing_82 : decode cX10_readsThing 82 = .ok (.aload_n 0, 1) := by decide +kernel
theorem dX10_readsThing_83 : decode cX10_readsThing 83 = .ok (.dup, 1) := by decide +kernel
theorem dX10_readsThing_84 : decode cX10_readsThing 84 = .ok (.getfield 133, 3) := by decide +kernel
theorem dX10_readsThing_87 : decode cX10_readsThing 87 = .ok (.iconst 1, 1) := by decide +kernel
theorem dX10_readsThing_88 : decode cX10_readsThing 88 = .ok (.iadd, 1) := by decide +kernel
theorem dX10_readsThing_89 : decode cX10_readsThing 89 = .ok (.putfield 133, 3) := by decide +kernel
theorem dX10_readsThing_92 : decode cX10_readsThing 92 = .ok (.aload_n 0, 1) := by decide +kernel
theorem dX10_readsThing_93 : decode cX10_readsThing 93 = .ok (.iconst 0, 1) := by decide +kernel
theorem dX10_readsThing_94 : decode cX10_readsThing 94 = .ok (.invokevirtual 218, 3) := by decide +kernel
theorem dX10_readsThing_97 : decode cX10_readsThing 97 = .ok (.ifCond .eq 12, 3) := by decide +kernel
theorem dX10_readsThing_100 : decode cX10_readsThing 100 = .ok (.aload_n 0, 1) := by decide +kernel
theorem dX10_readsThing_101 : decode cX10_readsThing 101 = .ok (.bipush 41, 2) := by decide +kernel
theorem dX10_readsThing_103 : decode cX10_readsThing 103 = .ok (.invokevirtual 183, 3) := by decide +kernel
theorem dX10_readsThing_106 : decode cX10_readsThing 106 = .ok (.ifCond .ne 5, 3) := by decide +kernel
theorem dX10_readsThing_109 : decode cX10_readsThing 109 = .ok (.iconst 0, 1) := by decide +kernel
theorem dX10_readsThing_110 : decode cX10_readsThing 110 = .ok (.ireturn, 1) := by decide +kernel
theorem dX10_readsThing_111 : decode cX10_readsThing 111 = .ok (.aload_n 0, 1) := by decide +kernel
theorem dX10_readsThing_112 : decode cX10_readsThing 112 = .ok (.dup, 1) := by decide +kernel
theorem dX10_readsThing_113 : decode cX10_readsThing 113 = .ok (.getfield 133, 3) := by decide +kernel
theorem dX10_readsThing_116 : decode cX10_readsThing 116 = .ok (.iconst 1, 1) := by decide +kernel
theorem dX10_readsThing_117 : decode cX10_readsThing 117 = .ok (.isub, 1) := by decide +kernel
theorem dX10_readsThing_118 : decode cX10_readsThing 118 = .ok (.putfield 133, 3) := by decide +kernel
theorem dX10_readsThing_121 : decode cX10_readsThing 121 = .ok (.iconst 1, 1) := by decide +kernel
theorem dX10_readsThing_122 : decode cX10_readsThing 122 = .ok (.ireturn, 1) := by decide +kernel
theorem dX10_readsRank_0 : decode cX10_readsRank 0 = .ok (.iload_n 1, 1) := by decide +kernel
theorem dX10_readsRank_1 : decode cX10_readsRank 1 = .ok (.iconst 3, 1) := by decide +kernel
theorem dX10_readsRank_2 : decode cX10_readsRank 2 = .ok (.if_icmp .ne 8, 3) := by decide +kernel
theorem dX10_readsRank_5 : decode cX10_readsRank 5 = .ok (.aload_n 0, 1) := by decide +kernel
theorem dX10_readsRank_6 : decode cX10_readsRank 6 = .ok (.invokevirtual 209, 3) := by decide +kernel
theorem dX10_readsRank_9 : decode cX10_readsRank 9 = .ok (.ireturn, 1) := by decide +kernel
theorem dX10_readsRank_10 : decode cX10_readsRank 10 = .ok (.aload_n 0, 1) := by decide +kernel
theorem dX10_readsRank_11 : decode cX10_readsRank 11 = .ok (.iload_n 1, 1) := by decide +kernel
theorem dX10_readsRank_12 : decode cX10_readsRank 12 = .ok (.iconst 1, 1) := by decide +kernel
theorem dX10_readsRank_13 : decode cX10_readsRank 13 = .ok (.iadd, 1) := by decide +kernel
theorem dX10_readsRank_14 : decode cX10_readsRank 14 = .ok (.invokevirtual 218, 3) := by decide +kernel
theorem dX10_readsRank_17 : decode cX10_readsRank 17 = .ok (.ifCond .ne 5, 3) := by decide +kernel
theorem dX10_readsRank_20 : decode cX10_readsRank 20 = .ok (.iconst 0, 1) := by decide +kernel
theorem dX10_readsRank_21 : decode cX10_readsRank 21 = .ok (.ireturn, 1) := by decide +kernel
theorem dX10_readsRank_22 : decode cX10_readsRank 22 = .ok (.iconst 1, 1) := by decide +kernel
theorem dX10_readsRank_23 : decode cX10_readsRank 23 = .ok (.istore_n 2, 1) := by decide +kernel
theorem dX10_readsRank_24 : decode cX10_readsRank 24 = .ok (.iload_n 2, 1) := by decide +kernel
theorem dX10_readsRank_25 : decode cX10_readsRank 25 = .ok (.ifCond .eq 88, 3) := by decide +kernel
theorem dX10_readsRank_28 : decode cX10_readsRank 28 = .ok (.aload_n 0, 1) := by decide +kernel
theorem dX10_readsRank_29 : decode cX10_readsRank 29 = .ok (.iload_n 1, 1) := by decide +kernel
theorem dX10_readsRank_30 : decode cX10_readsRank 30 = .ok (.ifCond .ne 8, 3) := by decide +kernel
theorem dX10_readsRank_33 : decode cX10_readsRank 33 = .ok (.ldc 221, 2) := by decide +kernel
theorem dX10_readsRank_35 : decode cX10_readsRank 35 = .ok (.goto 15, 3) := by decide +kernel
theorem dX10_readsRank_38 : decode cX10_readsRank 38 = .ok (.iload_n 1, 1) := by decide +kernel
theorem dX10_readsRank_39 : decode cX10_readsRank 39 = .ok (.iconst 1, 1) := by decide +kernel
theorem dX10_readsRank_40 : decode cX10_readsRank 40 = .ok (.if_icmp .ne 8, 3) := by decide +kernel
theorem dX10_readsRank_43 : decode cX10_readsRank 43 = .ok (.ldc 223, 2) := by decide +kernel
theorem dX10_readsRank_45 : decode cX10_readsRank 45 = .ok (.goto 5, 3) := by decide +kernel
theorem dX10_readsRank_48 : decode cX10_readsRank 48 = .ok (.ldc 225, 2) := by decide +kernel
theorem dX10_readsRank_50 : decode cX10_readsRank 50 = .ok (.invokevirtual 199, 3) := by decide +kernel
theorem dX10_readsRank_53 : decode cX10_readsRank 53 = .ok (.istore_n 3, 1) := by decide +kernel
theorem dX10_readsRank_54 : decode cX10_readsRank 54 = .ok (.iload_n 3, 1) := by decide +kernel
theorem dX10_readsRank_55 : decode cX10_readsRank 55 = .ok (.ifCond .ge 5, 3) := by decide +kernel
theorem dX10_readsRank_58 : decode cX10_readsRank 58 = .ok (.iconst 1, 1) := by decide +kernel
theorem dX10_readsRank_59 : decode cX10_readsRank 59 = .ok (.ireturn, 1) := by decide +kernel
theorem dX10_readsRank_60 : decode cX10_readsRank 60 = .ok (.aload_n 0, 1) := by decide +kernel
theorem dX10_readsRank_61 : decode cX10_readsRank 61 = .ok (.iload_n 1, 1) := by decide +kernel
theorem dX10_readsRank_62 : decode cX10_readsRank 62 = .ok (.iconst 1, 1) := by decide +kernel
theorem dX10_readsRank_63 : decode cX10_readsRank 63 = .ok (.iadd, 1) := by decide +kernel
theorem dX10_readsRank_64 : decode cX10_readsRank 64 = .ok (.invokevirtual 218, 3) := by decide +kernel
theorem dX10_readsRank_67 : decode cX10_readsRank 67 = .ok (.ifCond .ne 5, 3) := by decide +kernel
theorem dX10_readsRank_70 : decode cX10_readsRank 70 = .ok (.iconst 0, 1) := by decide +kernel
theorem dX10_readsRank_71 : decode cX10_readsRank 71 = .ok (.ireturn, 1) := by decide +kernel
theorem dX10_readsRank_72 : decode cX10_readsRank 72 = .ok (.aload_n 0, 1) := by decide +kernel
theorem dX10_readsRank_73 : decode cX10_readsRank 73 = .ok (.sipush 2000, 3) := by decide +kernel
theorem dX10_readsRank_76 : decode cX10_readsRank 76 = .ok (.iload_n 3, 1) := by decide +kernel
theorem dX10_readsRank_77 : decode cX10_readsRank 77 = .ok (.iadd, 1) := by decide +kernel
theorem dX10_readsRank_78 : decode cX10_readsRank 78 = .ok (.iload_n 1, 1) := by decide +kernel
theorem dX10_readsRank_79 : decode cX10_readsRank 79 = .ok (.ifCond .ne 7, 3) := by decide +kernel
theorem dX10_readsRank_82 : decode cX10_readsRank 82 = .ok (.iconst 0, 1) := by decide +kernel
theorem dX10_readsRank_83 : decode cX10_readsRank 83 = .ok (.goto 13, 3) := by decide +kernel
theorem dX10_readsRank_86 : decode cX10_readsRank 86 = .ok (.iload_n 1, 1) := by decide +kernel
theorem dX10_readsRank_87 : decode cX10_readsRank 87 = .ok (.iconst 1, 1) := by decide +kernel
theorem dX10_readsRank_88 : decode cX10_readsRank 88 = .ok (.if_icmp .ne 7, 3) := by decide +kernel
theorem dX10_readsRank_91 : decode cX10_readsRank 91 = .ok (.iconst 3, 1) := by decide +kernel
theorem dX10_readsRank_92 : decode cX10_readsRank 92 = .ok (.goto 4, 3) := by decide +kernel
theorem dX10_readsRank_95 : decode cX10_readsRank 95 = .ok (.iconst 5, 1) := by decide +kernel
theorem dX10_readsRank_96 : decode cX10_readsRank 96 = .ok (.iadd, 1) := by decide +kernel
theorem dX10_readsRank_97 : decode cX10_readsRank 97 = .ok (.invokevirtual 212, 3) := by decide +kernel
theorem dX10_readsRank_100 : decode cX10_readsRank 100 = .ok (.iload_n 1, 1) := by decide +kernel
theorem dX10_readsRank_101 : decode cX10_readsRank 101 = .ok (.ifCond .le 7, 3) := by decide +kernel
theorem dX10_readsRank_104 : decode cX10_readsRank 104 = .ok (.iconst 1, 1) := by decide +kernel
theorem dX10_readsRank_105 : decode cX10_readsRank 105 = .ok (.goto 4, 3) := by decide +kernel
theorem dX10_readsRank_108 : decode cX10_readsRank 108 = .ok (.iconst 0, 1) := by decide +kernel
theorem dX10_readsRank_109 : decode cX10_readsRank 109 = .ok (.istore_n 2, 1) := by decide +kernel
theorem dX10_readsRank_110 : decode cX10_readsRank 110 = .ok (.goto (-86), 3) := by decide +kernel
theorem dX10_readsRank_113 : decode cX10_readsRank 113 = .ok (.iconst 1, 1) := by decide +kernel
theorem dX10_readsRank_114 : decode cX10_readsRank 114 = .ok (.ireturn, 1) := by decide +kernel
theorem dX10_readsRule_0 : decode cX10_readsRule 0 = .ok (.aload_n 0, 1) := by decide +kernel
theorem dX10_readsRule_1 : decode cX10_readsRule 1 = .ok (.bipush 40, 2) := by decide +kernel
theorem dX10_readsRule_3 : decode cX10_readsRule 3 = .ok (.invokevirtual 177, 3) := by decide +kernel
theorem dX10_readsRule_6 : decode cX10_readsRule 6 = .ok (.istore_n 1, 1) := by decide +kernel
theorem dX10_readsRule_7 : decode cX10_readsRule 7 = .ok (.aload_n 0, 1) := by decide +kernel
theorem dX10_readsRule_8 : decode cX10_readsRule 8 = .ok (.iconst 0, 1) := by decide +kernel
theorem dX10_readsRule_9 : decode cX10_readsRule 9 = .ok (.putfield 206, 3) := by decide +kernel
theorem dX10_readsRule_12 : decode cX10_readsRule 12 = .ok (.iload_n 1, 1) := by decide +kernel
theorem dX10_readsRule_13 : decode cX10_readsRule 13 = .ok (.ifCond .eq 11, 3) := by decide +kernel
theorem dX10_readsRule_16 : decode cX10_readsRule 16 = .ok (.aload_n 0, 1) := by decide +kernel
theorem dX10_readsRule_17 : decode cX10_readsRule 17 = .ok (.iconst 0, 1) := by decide +kernel
theorem dX10_readsRule_18 : decode cX10_readsRule 18 = .ok (.invokevirtual 218, 3) := by decide +kernel
theorem dX10_readsRule_21 : decode cX10_readsRule 21 = .ok (.ifCond .eq 7, 3) := by decide +kernel
theorem dX10_readsRule_24 : decode cX10_readsRule 24 = .ok (.iconst 1, 1) := by decide +kernel
theorem dX10_readsRule_25 : decode cX10_readsRule 25 = .ok (.goto 4, 3) := by decide +kernel
theorem dX10_readsRule_28 : decode cX10_readsRule 28 = .ok (.iconst 0, 1) := by decide +kernel
theorem dX10_readsRule_29 : decode cX10_readsRule 29 = .ok (.istore_n 2, 1) := by decide +kernel
theorem dX10_readsRule_30 : decode cX10_readsRule 30 = .ok (.aload_n 0, 1) := by decide +kernel
theorem dX10_readsRule_31 : decode cX10_readsRule 31 = .ok (.iload_n 1, 1) := by decide +kernel
theorem dX10_readsRule_32 : decode cX10_readsRule 32 = .ok (.bipush 40, 2) := by decide +kernel
theorem dX10_readsRule_34 : decode cX10_readsRule 34 = .ok (.iload_n 2, 1) := by decide +kernel
theorem dX10_readsRule_35 : decode cX10_readsRule 35 = .ok (.invokevirtual 187, 3) := by decide +kernel
theorem dX10_readsRule_38 : decode cX10_readsRule 38 = .ok (.ireturn, 1) := by decide +kernel
theorem dX10_laysCode_0 : decode cX10_laysCode 0 = .ok (.aload_n 0, 1) := by decide +kernel
theorem dX10_laysCode_1 : decode cX10_laysCode 1 = .ok (.iload_n 2, 1) := by decide +kernel
theorem dX10_laysCode_2 : decode cX10_laysCode 2 = .ok (.putfield 227, 3) := by decide +kernel
theorem dX10_laysCode_5 : decode cX10_laysCode 5 = .ok (.iconst 0, 1) := by decide +kernel
theorem dX10_laysCode_6 : decode cX10_laysCode 6 = .ok (.istore_n 3, 1) := by decide +kernel
theorem dX10_laysCode_7 : decode cX10_laysCode 7 = .ok (.iload_n 3, 1) := by decide +kernel
theorem dX10_laysCode_8 : decode cX10_laysCode 8 = .ok (.iload_n 2, 1) := by decide +kernel
theorem dX10_laysCode_9 : decode cX10_laysCode 9 = .ok (.if_icmp .ge 18, 3) := by decide +kernel
theorem dX10_laysCode_12 : decode cX10_laysCode 12 = .ok (.aload_n 0, 1) := by decide +kernel
theorem dX10_laysCode_13 : decode cX10_laysCode 13 = .ok (.getfield 56, 3) := by decide +kernel
theorem dX10_laysCode_16 : decode cX10_laysCode 16 = .ok (.iload_n 3, 1) := by decide +kernel
theorem dX10_laysCode_17 : decode cX10_laysCode 17 = .ok (.aload_n 1, 1) := by decide +kernel
theorem dX10_laysCode_18 : decode cX10_laysCode 18 = .ok (.iload_n 3, 1) := by decide +kernel
theorem dX10_laysCode_19 : decode cX10_laysCode 19 = .ok (.iaload, 1) := by decide +kernel
theorem dX10_laysCode_20 : decode cX10_laysCode 20 = .ok (.iastore, 1) := by decide +kernel
theorem dX10_laysCode_21 : decode cX10_laysCode 21 = .ok (.iinc 3 1, 3) := by decide +kernel
theorem dX10_laysCode_24 : decode cX10_laysCode 24 = .ok (.goto (-17), 3) := by decide +kernel
theorem dX10_laysCode_27 : decode cX10_laysCode 27 = .ok (.return_, 1) := by decide +kernel
theorem dX10_rule_0 : decode cX10_rule 0 = .ok (.aload_n 0, 1) := by decide +kernel
theorem dX10_rule_1 : decode cX10_rule 1 = .ok (.iconst 0, 1) := by decide +kernel
theorem dX10_rule_2 : decode cX10_rule 2 = .ok (.putfield 3, 3) := by decide +kernel
theorem dX10_rule_5 : decode cX10_rule 5 = .ok (.aload_n 0, 1) := by decide +kernel
theorem dX10_rule_6 : decode cX10_rule 6 = .ok (.invokevirtual 230, 3) := by decide +kernel
theorem dX10_rule_9 : decode cX10_rule 9 = .ok (.istore_n 1, 1) := by decide +kernel
theorem dX10_rule_10 : decode cX10_rule 10 = .ok (.iload_n 1, 1) := by decide +kernel
theorem dX10_rule_11 : decode cX10_rule 11 = .ok (.ifCond .ne 15, 3) := by decide +kernel
theorem dX10_rule_14 : decode cX10_rule 14 = .ok (.aload_n 0, 1) := by decide +kernel
theorem dX10_rule_15 : decode cX10_rule 15 = .ok (.aload_n 0, 1) := by decide +kernel
theorem dX10_rule_16 : decode cX10_rule 16 = .ok (.getfield 59, 3) := by decide +kernel
theorem dX10_rule_19 : decode cX10_rule 19 = .ok (.aload_n 0, 1) := by decide +kernel
theorem dX10_rule_20 : decode cX10_rule 20 = .ok (.getfield 206, 3) := by decide +kernel
theorem dX10_rule_23 : decode cX10_rule 23 = .ok (.invokevirtual 233, 3) := by decide +kernel
theorem dX10_rule_26 : decode cX10_rule 26 = .ok (.iload_n 1, 1) := by decide +kernel
theorem dX10_rule_27 : decode cX10_rule 27 = .ok (.ireturn, 1) := by decide +kernel
theorem dX10_worked_0 : decode cX10_worked 0 = .ok (.iload_n 0, 1) := by decide +kernel
theorem dX10_worked_1 : decode cX10_worked 1 = .ok (.tableswitch 93 0 5 #[39, 53, 67, 81, 85, 89], 39) := by decide +kernel
theorem dX10_worked_40 : decode cX10_worked 40 = .ok (.iload_n 1, 1) := by decide +kernel
theorem dX10_worked_41 : decode cX10_worked 41 = .ok (.iload_n 2, 1) := by decide +kernel
theorem dX10_worked_42 : decode cX10_worked 42 = .ok (.if_icmp .ge 7, 3) := by decide +kernel
theorem dX10_worked_45 : decode cX10_worked 45 = .ok (.iconst 1, 1) := by decide +kernel
theorem dX10_worked_46 : decode cX10_worked 46 = .ok (.goto 4, 3) := by decide +kernel
theorem dX10_worked_49 : decode cX10_worked 49 = .ok (.iconst 0, 1) := by decide +kernel
theorem dX10_worked_50 : decode cX10_worked 50 = .ok (.invokestatic 145, 3) := by decide +kernel
theorem dX10_worked_53 : decode cX10_worked 53 = .ok (.ireturn, 1) := by decide +kernel
theorem dX10_worked_54 : decode cX10_worked 54 = .ok (.iload_n 1, 1) := by decide +kernel
theorem dX10_worked_55 : decode cX10_worked 55 = .ok (.iload_n 2, 1) := by decide +kernel
theorem dX10_worked_56 : decode cX10_worked 56 = .ok (.if_icmp .le 7, 3) := by decide +kernel
theorem dX10_worked_59 : decode cX10_worked 59 = .ok (.iconst 1, 1) := by decide +kernel
theorem dX10_worked_60 : decode cX10_worked 60 = .ok (.goto 4, 3) := by decide +kernel
theorem dX10_worked_63 : decode cX10_worked 63 = .ok (.iconst 0, 1) := by decide +kernel
theorem dX10_worked_64 : decode cX10_worked 64 = .ok (.invokestatic 145, 3) := by decide +kernel
theorem dX10_worked_67 : decode cX10_worked 67 = .ok (.ireturn, 1) := by decide +kernel
theorem dX10_worked_68 : decode cX10_worked 68 = .ok (.iload_n 1, 1) := by decide +kernel
theorem dX10_worked_69 : decode cX10_worked 69 = .ok (.iload_n 2, 1) := by decide +kernel
theorem dX10_worked_70 : decode cX10_worked 70 = .ok (.if_icmp .ne 7, 3) := by decide +kernel
theorem dX10_worked_73 : decode cX10_worked 73 = .ok (.iconst 1, 1) := by decide +kernel
theorem dX10_worked_74 : decode cX10_worked 74 = .ok (.goto 4, 3) := by decide +kernel
theorem dX10_worked_77 : decode cX10_worked 77 = .ok (.iconst 0, 1) := by decide +kernel
theorem dX10_worked_78 : decode cX10_worked 78 = .ok (.invokestatic 145, 3) := by decide +kernel
theorem dX10_worked_81 : decode cX10_worked 81 = .ok (.ireturn, 1) := by decide +kernel
theorem dX10_worked_82 : decode cX10_worked 82 = .ok (.iload_n 1, 1) := by decide +kernel
theorem dX10_worked_83 : decode cX10_worked 83 = .ok (.iload_n 2, 1) := by decide +kernel
theorem dX10_worked_84 : decode cX10_worked 84 = .ok (.iadd, 1) := by decide +kernel
theorem dX10_worked_85 : decode cX10_worked 85 = .ok (.ireturn, 1) := by decide +kernel
theorem dX10_worked_86 : decode cX10_worked 86 = .ok (.iload_n 1, 1) := by decide +kernel
theorem dX10_worked_87 : decode cX10_worked 87 = .ok (.iload_n 2, 1) := by decide +kernel
theorem dX10_worked_88 : decode cX10_worked 88 = .ok (.isub, 1) := by decide +kernel
theorem dX10_worked_89 : decode cX10_worked 89 = .ok (.ireturn, 1) := by decide +kernel
theorem dX10_worked_90 : decode cX10_worked 90 = .ok (.iload_n 1, 1) := by decide +kernel
theorem dX10_worked_91 : decode cX10_worked 91 = .ok (.iload_n 2, 1) := by decide +kernel
theorem dX10_worked_92 : decode cX10_worked 92 = .ok (.imul, 1) := by decide +kernel
theorem dX10_worked_93 : decode cX10_worked 93 = .ok (.ireturn, 1) := by decide +kernel
theorem dX10_worked_94 : decode cX10_worked 94 = .ok (.iload_n 2, 1) := by decide +kernel
theorem dX10_worked_95 : decode cX10_worked 95 = .ok (.ifCond .ne 7, 3) := by decide +kernel
theorem dX10_worked_98 : decode cX10_worked 98 = .ok (.iconst 0, 1) := by decide +kernel
theorem dX10_worked_99 : decode cX10_worked 99 = .ok (.goto 6, 3) := by decide +kernel
theorem dX10_worked_102 : decode cX10_worked 102 = .ok (.iload_n 1, 1) := by decide +kernel
theorem dX10_worked_103 : decode cX10_worked 103 = .ok (.iload_n 2, 1) := by decide +kernel
theorem dX10_worked_104 : decode cX10_worked 104 = .ok (.idiv, 1) := by decide +kernel
theorem dX10_worked_105 : decode cX10_worked 105 = .ok (.ireturn, 1) := by decide +kernel
theorem dX10_ruled_0 : decode cX10_ruled 0 = .ok (.iconst 0, 1) := by decide +kernel
theorem dX10_ruled_1 : decode cX10_ruled 1 = .ok (.istore_n 1, 1) := by decide +kernel
theorem dX10_ruled_2 : decode cX10_ruled 2 = .ok (.iconst 0, 1) := by decide +kernel
theorem dX10_ruled_3 : decode cX10_ruled 3 = .ok (.istore_n 2, 1) := by decide +kernel
theorem dX10_ruled_4 : decode cX10_ruled 4 = .ok (.iload_n 2, 1) := by decide +kernel
theorem dX10_ruled_5 : decode cX10_ruled 5 = .ok (.aload_n 0, 1) := by decide +kernel
theorem dX10_ruled_6 : decode cX10_ruled 6 = .ok (.getfield 227, 3) := by decide +kernel
theorem dX10_ruled_9 : decode cX10_ruled 9 = .ok (.if_icmp .ge 116, 3) := by decide +kernel
theorem dX10_ruled_12 : decode cX10_ruled 12 = .ok (.aload_n 0, 1) := by decide +kernel
theorem dX10_ruled_13 : decode cX10_ruled 13 = .ok (.getfield 56, 3) := by decide +kernel
theorem dX10_ruled_16 : decode cX10_ruled 16 = .ok (.iload_n 2, 1) := by decide +kernel
theorem dX10_ruled_17 : decode cX10_ruled 17 = .ok (.iaload, 1) := by decide +kernel
theorem dX10_ruled_18 : decode cX10_ruled 18 = .ok (.istore_n 3, 1) := by decide +kernel
theorem dX10_ruled_19 : decode cX10_ruled 19 = .ok (.iload_n 3, 1) := by decide +kernel
theorem dX10_ruled_20 : decode cX10_ruled 20 = .ok (.sipush 3000, 3) := by decide +kernel
theorem dX10_ruled_23 : decode cX10_ruled 23 = .ok (.if_icmp .ne 23, 3) := by decide +kernel
theorem dX10_ruled_26 : decode cX10_ruled 26 = .ok (.aload_n 0, 1) := by decide +kernel
theorem dX10_ruled_27 : decode cX10_ruled 27 = .ok (.getfield 62, 3) := by decide +kernel
theorem dX10_ruled_30 : decode cX10_ruled 30 = .ok (.iload_n 1, 1) := by decide +kernel
theorem dX10_ruled_31 : decode cX10_ruled 31 = .ok (.iconst 1, 1) := by decide +kernel
theorem dX10_ruled_32 : decode cX10_ruled 32 = .ok (.isub, 1) := by decide +kernel
theorem dX10_ruled_33 : decode cX10_ruled 33 = .ok (.aload_n 0, 1) := by decide +kernel
theorem dX10_ruled_34 : decode cX10_ruled 34 = .ok (.getfield 62, 3) := by decide +kernel
theorem dX10_ruled_37 : decode cX10_ruled 37 = .ok (.iload_n 1, 1) := by decide +kernel
theorem dX10_ruled_38 : decode cX10_ruled 38 = .ok (.iconst 1, 1) := by decide +kernel
theorem dX10_ruled_39 : decode cX10_ruled 39 = .ok (.isub, 1) := by decide +kernel
theorem dX10_ruled_40 : decode cX10_ruled 40 = .ok (.iaload, 1) := by decide +kernel
theorem dX10_ruled_41 : decode cX10_ruled 41 = .ok (.ineg, 1) := by decide +kernel
theorem dX10_ruled_42 : decode cX10_ruled 42 = .ok (.iastore, 1) := by decide +kernel
theorem dX10_ruled_43 : decode cX10_ruled 43 = .ok (.goto 76, 3) := by decide +kernel
theorem dX10_ruled_46 : decode cX10_ruled 46 = .ok (.iload_n 3, 1) := by decide +kernel
theorem dX10_ruled_47 : decode cX10_ruled 47 = .ok (.sipush 2000, 3) := by decide +kernel
theorem dX10_ruled_50 : decode cX10_ruled 50 = .ok (.if_icmp .lt 39, 3) := by decide +kernel
theorem dX10_ruled_53 : decode cX10_ruled 53 = .ok (.iinc 1 (-1), 3) := by decide +kernel
theorem dX10_ruled_56 : decode cX10_ruled 56 = .ok (.aload_n 0, 1) := by decide +kernel
theorem dX10_ruled_57 : decode cX10_ruled 57 = .ok (.getfield 62, 3) := by decide +kernel
theorem dX10_ruled_60 : decode cX10_ruled 60 = .ok (.iload_n 1, 1) := by decide +kernel
theorem dX10_ruled_61 : decode cX10_ruled 61 = .ok (.iconst 1, 1) := by decide +kernel
theorem dX10_ruled_62 : decode cX10_ruled 62 = .ok (.isub, 1) := by decide +kernel
theorem dX10_ruled_63 : decode cX10_ruled 63 = .ok (.iload_n 3, 1) := by decide +kernel
theorem dX10_ruled_64 : decode cX10_ruled 64 = .ok (.sipush 2000, 3) := by decide +kernel
theorem dX10_ruled_67 : decode cX10_ruled 67 = .ok (.isub, 1) := by decide +kernel
theorem dX10_ruled_68 : decode cX10_ruled 68 = .ok (.aload_n 0, 1) := by decide +kernel
theorem dX10_ruled_69 : decode cX10_ruled 69 = .ok (.getfield 62, 3) := by decide +kernel
theorem dX10_ruled_72 : decode cX10_ruled 72 = .ok (.iload_n 1, 1) := by decide +kernel
theorem dX10_ruled_73 : decode cX10_ruled 73 = .ok (.iconst 1, 1) := by decide +kernel
theorem dX10_ruled_74 : decode cX10_ruled 74 = .ok (.isub, 1) := by decide +kernel
theorem dX10_ruled_75 : decode cX10_ruled 75 = .ok (.iaload, 1) := by decide +kernel
theorem dX10_ruled_76 : decode cX10_ruled 76 = .ok (.aload_n 0, 1) := by decide +kernel
theorem dX10_ruled_77 : decode cX10_ruled 77 = .ok (.getfield 62, 3) := by decide +kernel
theorem dX10_ruled_80 : decode cX10_ruled 80 = .ok (.iload_n 1, 1) := by decide +kernel
theorem dX10_ruled_81 : decode cX10_ruled 81 = .ok (.iaload, 1) := by decide +kernel
theorem dX10_ruled_82 : decode cX10_ruled 82 = .ok (.invokestatic 237, 3) := by decide +kernel
theorem dX10_ruled_85 : decode cX10_ruled 85 = .ok (.iastore, 1) := by decide +kernel
theorem dX10_ruled_86 : decode cX10_ruled 86 = .ok (.goto 33, 3) := by decide +kernel
theorem dX10_ruled_89 : decode cX10_ruled 89 = .ok (.aload_n 0, 1) := by decide +kernel
theorem dX10_ruled_90 : decode cX10_ruled 90 = .ok (.getfield 62, 3) := by decide +kernel
theorem dX10_ruled_93 : decode cX10_ruled 93 = .ok (.iload_n 1, 1) := by decide +kernel
theorem dX10_ruled_94 : decode cX10_ruled 94 = .ok (.iload_n 3, 1) := by decide +kernel
theorem dX10_ruled_95 : decode cX10_ruled 95 = .ok (.sipush 1000, 3) := by decide +kernel
theorem dX10_ruled_98 : decode cX10_ruled 98 = .ok (.if_icmp .lt 16, 3) := by decide +kernel
theorem dX10_ruled_101 : decode cX10_ruled 101 = .ok (.aload_n 0, 1) := by decide +kernel
theorem dX10_ruled_102 : decode cX10_ruled 102 = .ok (.getfield 65, 3) := by decide +kernel
theorem dX10_ruled_105 : decode cX10_ruled 105 = .ok (.iload_n 3, 1) := by decide +kernel
theorem dX10_ruled_106 : decode cX10_ruled 106 = .ok (.sipush 1000, 3) := by decide +kernel
theorem dX10_ruled_109 : decode cX10_ruled 109 = .ok (.isub, 1) := by decide +kernel
theorem dX10_ruled_110 : decode cX10_ruled 110 = .ok (.iaload, 1) := by decide +kernel
theorem dX10_ruled_111 : decode cX10_ruled 111 = .ok (.goto 4, 3) := by decide +kernel
theorem dX10_ruled_114 : decode cX10_ruled 114 = .ok (.iload_n 3, 1) := by decide +kernel
theorem dX10_ruled_115 : decode cX10_ruled 115 = .ok (.iastore, 1) := by decide +kernel
theorem dX10_ruled_116 : decode cX10_ruled 116 = .ok (.iinc 1 1, 3) := by decide +kernel
theorem dX10_ruled_119 : decode cX10_ruled 119 = .ok (.iinc 2 1, 3) := by decide +kernel
theorem dX10_ruled_122 : decode cX10_ruled 122 = .ok (.goto (-118), 3) := by decide +kernel
theorem dX10_ruled_125 : decode cX10_ruled 125 = .ok (.aload_n 0, 1) := by decide +kernel
theorem dX10_ruled_126 : decode cX10_ruled 126 = .ok (.getfield 227, 3) := by decide +kernel
theorem dX10_ruled_129 : decode cX10_ruled 129 = .ok (.ifCond .ne 28, 3) := by decide +kernel
theorem dX10_ruled_132 : decode cX10_ruled 132 = .ok (.iconst 2, 1) := by decide +kernel
theorem dX10_ruled_133 : decode cX10_ruled 133 = .ok (.aload_n 0, 1) := by decide +kernel
theorem dX10_ruled_134 : decode cX10_ruled 134 = .ok (.getfield 65, 3) := by decide +kernel
theorem dX10_ruled_137 : decode cX10_ruled 137 = .ok (.iconst 0, 1) := by decide +kernel
theorem dX10_ruled_138 : decode cX10_ruled 138 = .ok (.iaload, 1) := by decide +kernel
theorem dX10_ruled_139 : decode cX10_ruled 139 = .ok (.imul, 1) := by decide +kernel
theorem dX10_ruled_140 : decode cX10_ruled 140 = .ok (.aload_n 0, 1) := by decide +kernel
theorem dX10_ruled_141 : decode cX10_ruled 141 = .ok (.getfield 65, 3) := by decide +kernel
theorem dX10_ruled_144 : decode cX10_ruled 144 = .ok (.iconst 1, 1) := by decide +kernel
theorem dX10_ruled_145 : decode cX10_ruled 145 = .ok (.iaload, 1) := by decide +kernel
theorem dX10_ruled_146 : decode cX10_ruled 146 = .ok (.iadd, 1) := by decide +kernel
theorem dX10_ruled_147 : decode cX10_ruled 147 = .ok (.aload_n 0, 1) := by decide +kernel
theorem dX10_ruled_148 : decode cX10_ruled 148 = .ok (.getfield 65, 3) := by decide +kernel
theorem dX10_ruled_151 : decode cX10_ruled 151 = .ok (.iconst 2, 1) := by decide +kernel
theorem dX10_ruled_152 : decode cX10_ruled 152 = .ok (.iaload, 1) := by decide +kernel
theorem dX10_ruled_153 : decode cX10_ruled 153 = .ok (.idiv, 1) := by decide +kernel
theorem dX10_ruled_154 : decode cX10_ruled 154 = .ok (.goto 9, 3) := by decide +kernel
theorem dX10_ruled_157 : decode cX10_ruled 157 = .ok (.aload_n 0, 1) := by decide +kernel
theorem dX10_ruled_158 : decode cX10_ruled 158 = .ok (.getfield 62, 3) := by decide +kernel
theorem dX10_ruled_161 : decode cX10_ruled 161 = .ok (.iconst 0, 1) := by decide +kernel
theorem dX10_ruled_162 : decode cX10_ruled 162 = .ok (.iaload, 1) := by decide +kernel
theorem dX10_ruled_163 : decode cX10_ruled 163 = .ok (.ireturn, 1) := by decide +kernel
theorem dX10_priceBy_0 : decode cX10_priceBy 0 = .ok (.aload_n 0, 1) := by decide +kernel
theorem dX10_priceBy_1 : decode cX10_priceBy 1 = .ok (.getfield 65, 3) := by decide +kernel
theorem dX10_priceBy_4 : decode cX10_priceBy 4 = .ok (.iconst 0, 1) := by decide +kernel
theorem dX10_priceBy_5 : decode cX10_priceBy 5 = .ok (.iload_n 2, 1) := by decide +kernel
theorem dX10_priceBy_6 : decode cX10_priceBy 6 = .ok (.iastore, 1) := by decide +kernel
theorem dX10_priceBy_7 : decode cX10_priceBy 7 = .ok (.aload_n 0, 1) := by decide +kernel
theorem dX10_priceBy_8 : decode cX10_priceBy 8 = .ok (.getfield 65, 3) := by decide +kernel
theorem dX10_priceBy_11 : decode cX10_priceBy 11 = .ok (.iconst 1, 1) := by decide +kernel
theorem dX10_priceBy_12 : decode cX10_priceBy 12 = .ok (.iload_n 3, 1) := by decide +kernel
theorem dX10_priceBy_13 : decode cX10_priceBy 13 = .ok (.iastore, 1) := by decide +kernel
theorem dX10_priceBy_14 : decode cX10_priceBy 14 = .ok (.aload_n 0, 1) := by decide +kernel
theorem dX10_priceBy_15 : decode cX10_priceBy 15 = .ok (.getfield 65, 3) := by decide +kernel
theorem dX10_priceBy_18 : decode cX10_priceBy 18 = .ok (.iconst 2, 1) := by decide +kernel
theorem dX10_priceBy_19 : decode cX10_priceBy 19 = .ok (.aload_n 0, 1) := by decide +kernel
theorem dX10_priceBy_20 : decode cX10_priceBy 20 = .ok (.getfield 38, 3) := by decide +kernel
theorem dX10_priceBy_23 : decode cX10_priceBy 23 = .ok (.iload_n 1, 1) := by decide +kernel
theorem dX10_priceBy_24 : decode cX10_priceBy 24 = .ok (.iaload, 1) := by decide +kernel
theorem dX10_priceBy_25 : decode cX10_priceBy 25 = .ok (.iastore, 1) := by decide +kernel
theorem dX10_priceBy_26 : decode cX10_priceBy 26 = .ok (.aload_n 0, 1) := by decide +kernel
theorem dX10_priceBy_27 : decode cX10_priceBy 27 = .ok (.getfield 65, 3) := by decide +kernel
theorem dX10_priceBy_30 : decode cX10_priceBy 30 = .ok (.iconst 3, 1) := by decide +kernel
theorem dX10_priceBy_31 : decode cX10_priceBy 31 = .ok (.iload_n 1, 1) := by decide +kernel
theorem dX10_priceBy_32 : decode cX10_priceBy 32 = .ok (.iastore, 1) := by decide +kernel
theorem dX10_priceBy_33 : decode cX10_priceBy 33 = .ok (.aload_n 0, 1) := by decide +kernel
theorem dX10_priceBy_34 : decode cX10_priceBy 34 = .ok (.getfield 65, 3) := by decide +kernel
theorem dX10_priceBy_37 : decode cX10_priceBy 37 = .ok (.iconst 4, 1) := by decide +kernel
theorem dX10_priceBy_38 : decode cX10_priceBy 38 = .ok (.iload 4, 2) := by decide +kernel
theorem dX10_priceBy_40 : decode cX10_priceBy 40 = .ok (.bipush 12, 2) := by decide +kernel
theorem dX10_priceBy_42 : decode cX10_priceBy 42 = .ok (.irem, 1) := by decide +kernel
theorem dX10_priceBy_43 : decode cX10_priceBy 43 = .ok (.iastore, 1) := by decide +kernel
theorem dX10_priceBy_44 : decode cX10_priceBy 44 = .ok (.aload_n 0, 1) := by decide +kernel
theorem dX10_priceBy_45 : decode cX10_priceBy 45 = .ok (.getfield 65, 3) := by decide +kernel
theorem dX10_priceBy_48 : decode cX10_priceBy 48 = .ok (.iconst 5, 1) := by decide +kernel
theorem dX10_priceBy_49 : decode cX10_priceBy 49 = .ok (.iload 5, 2) := by decide +kernel
theorem dX10_priceBy_51 : decode cX10_priceBy 51 = .ok (.iastore, 1) := by decide +kernel
theorem dX10_priceBy_52 : decode cX10_priceBy 52 = .ok (.iconst 0, 1) := by decide +kernel
theorem dX10_priceBy_53 : decode cX10_priceBy 53 = .ok (.ldc 241, 2) := by decide +kernel
theorem dX10_priceBy_55 : decode cX10_priceBy 55 = .ok (.aload_n 0, 1) := by decide +kernel
theorem dX10_priceBy_56 : decode cX10_priceBy 56 = .ok (.invokevirtual 242, 3) := by decide +kernel
theorem dX10_priceBy_59 : decode cX10_priceBy 59 = .ok (.invokestatic 136, 3) := by decide +kernel
theorem dX10_priceBy_62 : decode cX10_priceBy 62 = .ok (.invokestatic 245, 3) := by decide +kernel
theorem dX10_priceBy_65 : decode cX10_priceBy 65 = .ok (.ireturn, 1) := by decide +kernel
theorem dX10_priceOf_0 : decode cX10_priceOf 0 = .ok (.aload_n 0, 1) := by decide +kernel
theorem dX10_priceOf_1 : decode cX10_priceOf 1 = .ok (.iload_n 2, 1) := by decide +kernel
theorem dX10_priceOf_2 : decode cX10_priceOf 2 = .ok (.aload_n 1, 1) := by decide +kernel
theorem dX10_priceOf_3 : decode cX10_priceOf 3 = .ok (.iconst 0, 1) := by decide +kernel
theorem dX10_priceOf_4 : decode cX10_priceOf 4 = .ok (.iload_n 2, 1) := by decide +kernel
theorem dX10_priceOf_5 : decode cX10_priceOf 5 = .ok (.invokestatic 248, 3) := by decide +kernel
theorem dX10_priceOf_8 : decode cX10_priceOf 8 = .ok (.iaload, 1) := by decide +kernel
theorem dX10_priceOf_9 : decode cX10_priceOf 9 = .ok (.aload_n 1, 1) := by decide +kernel
theorem dX10_priceOf_10 : decode cX10_priceOf 10 = .ok (.iconst 1, 1) := by decide +kernel
theorem dX10_priceOf_11 : decode cX10_priceOf 11 = .ok (.iload_n 2, 1) := by decide +kernel
theorem dX10_priceOf_12 : decode cX10_priceOf 12 = .ok (.invokestatic 248, 3) := by decide +kernel
theorem dX10_priceOf_15 : decode cX10_priceOf 15 = .ok (.iaload, 1) := by decide +kernel
theorem dX10_priceOf_16 : decode cX10_priceOf 16 = .ok (.aload_n 1, 1) := by decide +kernel
theorem dX10_priceOf_17 : decode cX10_priceOf 17 = .ok (.bipush 25, 2) := by decide +kernel
theorem dX10_priceOf_19 : decode cX10_priceOf 19 = .ok (.iaload, 1) := by decide +kernel
theorem dX10_priceOf_20 : decode cX10_priceOf 20 = .ok (.aload_n 1, 1) := by decide +kernel
theorem dX10_priceOf_21 : decode cX10_priceOf 21 = .ok (.bipush 12, 2) := by decide +kernel
theorem dX10_priceOf_23 : decode cX10_priceOf 23 = .ok (.iconst 0, 1) := by decide +kernel
theorem dX10_priceOf_24 : decode cX10_priceOf 24 = .ok (.iload_n 2, 1) := by decide +kernel
theorem dX10_priceOf_25 : decode cX10_priceOf 25 = .ok (.invokestatic 248, 3) := by decide +kernel
theorem dX10_priceOf_28 : decode cX10_priceOf 28 = .ok (.iadd, 1) := by decide +kernel
theorem dX10_priceOf_29 : decode cX10_priceOf 29 = .ok (.iaload, 1) := by decide +kernel
theorem dX10_priceOf_30 : decode cX10_priceOf 30 = .ok (.aload_n 1, 1) := by decide +kernel
theorem dX10_priceOf_31 : decode cX10_priceOf 31 = .ok (.bipush 12, 2) := by decide +kernel
theorem dX10_priceOf_33 : decode cX10_priceOf 33 = .ok (.iconst 1, 1) := by decide +kernel
theorem dX10_priceOf_34 : decode cX10_priceOf 34 = .ok (.iload_n 2, 1) := by decide +kernel
theorem dX10_priceOf_35 : decode cX10_priceOf 35 = .ok (.invokestatic 248, 3) := by decide +kernel
theorem dX10_priceOf_38 : decode cX10_priceOf 38 = .ok (.iadd, 1) := by decide +kernel
theorem dX10_priceOf_39 : decode cX10_priceOf 39 = .ok (.iaload, 1) := by decide +kernel
theorem dX10_priceOf_40 : decode cX10_priceOf 40 = .ok (.iadd, 1) := by decide +kernel
theorem dX10_priceOf_41 : decode cX10_priceOf 41 = .ok (.invokevirtual 250, 3) := by decide +kernel
theorem dX10_priceOf_44 : decode cX10_priceOf 44 = .ok (.ireturn, 1) := by decide +kernel
theorem dX10_market_0 : decode cX10_market 0 = .ok (.aload_n 0, 1) := by decide +kernel
theorem dX10_market_1 : decode cX10_market 1 = .ok (.iconst 0, 1) := by decide +kernel
theorem dX10_market_2 : decode cX10_market 2 = .ok (.putfield 3, 3) := by decide +kernel
theorem dX10_market_5 : decode cX10_market 5 = .ok (.aload_n 0, 1) := by decide +kernel
theorem dX10_market_6 : decode cX10_market 6 = .ok (.iload_n 1, 1) := by decide +kernel
theorem dX10_market_7 : decode cX10_market 7 = .ok (.invokevirtual 254, 3) := by decide +kernel
theorem dX10_market_10 : decode cX10_market 10 = .ok (.ifCond .eq 15, 3) := by decide +kernel
theorem dX10_market_13 : decode cX10_market 13 = .ok (.iload_n 2, 1) := by decide +kernel
theorem dX10_market_14 : decode cX10_market 14 = .ok (.i2l, 1) := by decide +kernel
theorem dX10_market_15 : decode cX10_market 15 = .ok (.lconst 0, 1) := by decide +kernel
theorem dX10_market_16 : decode cX10_market 16 = .ok (.ldc2_w 257, 3) := by decide +kernel
theorem dX10_market_19 : decode cX10_market 19 = .ok (.invokestatic 123, 3) := by decide +kernel
theorem dX10_market_22 : decode cX10_market 22 = .ok (.ifCond .ne 8, 3) := by decide +kernel
theorem dX10_market_25 : decode cX10_market 25 = .ok (.aload_n 0, 1) := by decide +kernel
theorem dX10_market_26 : decode cX10_market 26 = .ok (.invokevirtual 259, 3) := by decide +kernel
theorem dX10_market_29 : decode cX10_market 29 = .ok (.ireturn, 1) := by decide +kernel
theorem dX10_market_30 : decode cX10_market 30 = .ok (.iload_n 2, 1) := by decide +kernel
theorem dX10_market_31 : decode cX10_market 31 = .ok (.ifCond .ne 12, 3) := by decide +kernel
theorem dX10_market_34 : decode cX10_market 34 = .ok (.aload_n 0, 1) := by decide +kernel
theorem dX10_market_35 : decode cX10_market 35 = .ok (.getfield 38, 3) := by decide +kernel
theorem dX10_market_38 : decode cX10_market 38 = .ok (.iload_n 1, 1) := by decide +kernel
theorem dX10_market_39 : decode cX10_market 39 = .ok (.iaload, 1) := by decide +kernel
theorem dX10_market_40 : decode cX10_market 40 = .ok (.goto 33, 3) := by decide +kernel
theorem dX10_market_43 : decode cX10_market 43 = .ok (.iload_n 2, 1) := by decide +kernel
theorem dX10_market_44 : decode cX10_market 44 = .ok (.iconst 5, 1) := by decide +kernel
theorem dX10_market_45 : decode cX10_market 45 = .ok (.if_icmp .ne 15, 3) := by decide +kernel
theorem dX10_market_48 : decode cX10_market 48 = .ok (.aload_n 0, 1) := by decide +kernel
theorem dX10_market_49 : decode cX10_market 49 = .ok (.aload_n 0, 1) := by decide +kernel
theorem dX10_market_50 : decode cX10_market 50 = .ok (.getfield 41, 3) := by decide +kernel
theorem dX10_market_53 : decode cX10_market 53 = .ok (.iload_n 1, 1) := by decide +kernel
theorem dX10_market_54 : decode cX10_market 54 = .ok (.invokevirtual 262, 3) := by decide +kernel
theorem dX10_market_57 : decode cX10_market 57 = .ok (.goto 16, 3) := by decide +kernel
theorem dX10_market_60 : decode cX10_market 60 = .ok (.aload_n 0, 1) := by decide +kernel
theorem dX10_market_61 : decode cX10_market 61 = .ok (.getfield 41, 3) := by decide +kernel
theorem dX10_market_64 : decode cX10_market 64 = .ok (.bipush 6, 2) := by decide +kernel
theorem dX10_market_66 : decode cX10_market 66 = .ok (.iload_n 2, 1) := by decide +kernel
theorem dX10_market_67 : decode cX10_market 67 = .ok (.iconst 1, 1) := by decide +kernel
theorem dX10_market_68 : decode cX10_market 68 = .ok (.isub, 1) := by decide +kernel
theorem dX10_market_69 : decode cX10_market 69 = .ok (.imul, 1) := by decide +kernel
theorem dX10_market_70 : decode cX10_market 70 = .ok (.iload_n 1, 1) := by decide +kernel
theorem dX10_market_71 : decode cX10_market 71 = .ok (.iadd, 1) := by decide +kernel
theorem dX10_market_72 : decode cX10_market 72 = .ok (.iaload, 1) := by decide +kernel
theorem dX10_market_73 : decode cX10_market 73 = .ok (.ireturn, 1) := by decide +kernel
theorem dX10_load_0 : decode cX10_load 0 = .ok (.aload_n 0, 1) := by decide +kernel
theorem dX10_load_1 : decode cX10_load 1 = .ok (.iconst 0, 1) := by decide +kernel
theorem dX10_load_2 : decode cX10_load 2 = .ok (.putfield 3, 3) := by decide +kernel
theorem dX10_load_5 : decode cX10_load 5 = .ok (.iload_n 1, 1) := by decide +kernel
theorem dX10_load_6 : decode cX10_load 6 = .ok (.i2l, 1) := by decide +kernel
theorem dX10_load_7 : decode cX10_load 7 = .ok (.lconst 0, 1) := by decide +kernel
theorem dX10_load_8 : decode cX10_load 8 = .ok (.aload_n 0, 1) := by decide +kernel
theorem dX10_load_9 : decode cX10_load 9 = .ok (.getfield 28, 3) := by decide +kernel
theorem dX10_load_12 : decode cX10_load 12 = .ok (.iconst 1, 1) := by decide +kernel
theorem dX10_load_13 : decode cX10_load 13 = .ok (.isub, 1) := by decide +kernel
theorem dX10_load_14 : decode cX10_load 14 = .ok (.i2l, 1) := by decide +kernel
theorem dX10_load_15 : decode cX10_load 15 = .ok (.invokestatic 123, 3) := by decide +kernel
theorem dX10_load_18 : decode cX10_load 18 = .ok (.ifCond .eq 13, 3) := by decide +kernel
theorem dX10_load_21 : decode cX10_load 21 = .ok (.iload_n 2, 1) := by decide +kernel
theorem dX10_load_22 : decode cX10_load 22 = .ok (.i2l, 1) := by decide +kernel
theorem dX10_load_23 : decode cX10_load 23 = .ok (.lconst 0, 1) := by decide +kernel
theorem dX10_load_24 : decode cX10_load 24 = .ok (.lconst 1, 1) := by decide +kernel
theorem dX10_load_25 : decode cX10_load 25 = .ok (.invokestatic 123, 3) := by decide +kernel
theorem dX10_load_28 : decode cX10_load 28 = .ok (.ifCond .ne 8, 3) := by decide +kernel
theorem dX10_load_31 : decode cX10_load 31 = .ok (.aload_n 0, 1) := by decide +kernel
theorem dX10_load_32 : decode cX10_load 32 = .ok (.invokevirtual 259, 3) := by decide +kernel
theorem dX10_load_35 : decode cX10_load 35 = .ok (.ireturn, 1) := by decide +kernel
theorem dX10_load_36 : decode cX10_load 36 = .ok (.iload_n 2, 1) := by decide +kernel
theorem dX10_load_37 : decode cX10_load 37 = .ok (.ifCond .ne 12, 3) := by decide +kernel
theorem dX10_load_40 : decode cX10_load 40 = .ok (.aload_n 0, 1) := by decide +kernel
theorem dX10_load_41 : decode cX10_load 41 = .ok (.getfield 31, 3) := by decide +kernel
theorem dX10_load_44 : decode cX10_load 44 = .ok (.iload_n 1, 1) := by decide +kernel
theorem dX10_load_45 : decode cX10_load 45 = .ok (.iaload, 1) := by decide +kernel
theorem dX10_load_46 : decode cX10_load 46 = .ok (.goto 9, 3) := by decide +kernel
theorem dX10_load_49 : decode cX10_load 49 = .ok (.aload_n 0, 1) := by decide +kernel
theorem dX10_load_50 : decode cX10_load 50 = .ok (.getfield 35, 3) := by decide +kernel
theorem dX10_load_53 : decode cX10_load 53 = .ok (.iload_n 1, 1) := by decide +kernel
theorem dX10_load_54 : decode cX10_load 54 = .ok (.iaload, 1) := by decide +kernel
theorem dX10_load_55 : decode cX10_load 55 = .ok (.ireturn, 1) := by decide +kernel
theorem dX10_sheet_0 : decode cX10_sheet 0 = .ok (.aload_n 0, 1) := by decide +kernel
theorem dX10_sheet_1 : decode cX10_sheet 1 = .ok (.iconst 0, 1) := by decide +kernel
theorem dX10_sheet_2 : decode cX10_sheet 2 = .ok (.putfield 3, 3) := by decide +kernel
theorem dX10_sheet_5 : decode cX10_sheet 5 = .ok (.iload_n 1, 1) := by decide +kernel
theorem dX10_sheet_6 : decode cX10_sheet 6 = .ok (.i2l, 1) := by decide +kernel
theorem dX10_sheet_7 : decode cX10_sheet 7 = .ok (.lconst 0, 1) := by decide +kernel
theorem dX10_sheet_8 : decode cX10_sheet 8 = .ok (.ldc2_w 266, 3) := by decide +kernel
theorem dX10_sheet_11 : decode cX10_sheet 11 = .ok (.invokestatic 123, 3) := by decide +kernel
theorem dX10_sheet_14 : decode cX10_sheet 14 = .ok (.ifCond .eq 9, 3) := by decide +kernel
theorem dX10_sheet_17 : decode cX10_sheet 17 = .ok (.iload_n 2, 1) := by decide +kernel
theorem dX10_sheet_18 : decode cX10_sheet 18 = .ok (.bipush 6, 2) := by decide +kernel
theorem dX10_sheet_20 : decode cX10_sheet 20 = .ok (.if_icmp .le 5, 3) := by decide +kernel
theorem dX10_sheet_23 : decode cX10_sheet 23 = .ok (.iconst (-1), 1) := by decide +kernel
theorem dX10_sheet_24 : decode cX10_sheet 24 = .ok (.ireturn, 1) := by decide +kernel
theorem dX10_sheet_25 : decode cX10_sheet 25 = .ok (.iload_n 1, 1) := by decide +kernel
theorem dX10_sheet_26 : decode cX10_sheet 26 = .ok (.iconst 3, 1) := by decide +kernel
theorem dX10_sheet_27 : decode cX10_sheet 27 = .ok (.if_icmp .eq 10, 3) := by decide +kernel
theorem dX10_sheet_30 : decode cX10_sheet 30 = .ok (.iload_n 2, 1) := by decide +kernel
theorem dX10_sheet_31 : decode cX10_sheet 31 = .ok (.ifCond .ge 6, 3) := by decide +kernel
theorem dX10_sheet_34 : decode cX10_sheet 34 = .ok (.bipush (-2), 2) := by decide +kernel
theorem dX10_sheet_36 : decode cX10_sheet 36 = .ok (.ireturn, 1) := by decide +kernel
theorem dX10_sheet_37 : decode cX10_sheet 37 = .ok (.iconst 0, 1) := by decide +kernel
theorem dX10_sheet_38 : decode cX10_sheet 38 = .ok (.istore 5, 2) := by decide +kernel
theorem dX10_sheet_40 : decode cX10_sheet 40 = .ok (.iload_n 3, 1) := by decide +kernel
theorem dX10_sheet_41 : decode cX10_sheet 41 = .ok (.istore 6, 2) := by decide +kernel
theorem dX10_sheet_43 : decode cX10_sheet 43 = .ok (.iconst 0, 1) := by decide +kernel
theorem dX10_sheet_44 : decode cX10_sheet 44 = .ok (.istore 7, 2) := by decide +kernel
theorem dX10_sheet_46 : decode cX10_sheet 46 = .ok (.iload 7, 2) := by decide +kernel
theorem dX10_sheet_48 : decode cX10_sheet 48 = .ok (.aload_n 0, 1) := by decide +kernel
theorem dX10_sheet_49 : decode cX10_sheet 49 = .ok (.getfield 120, 3) := by decide +kernel
theorem dX10_sheet_52 : decode cX10_sheet 52 = .ok (.if_icmp .ge 86, 3) := by decide +kernel
theorem dX10_sheet_55 : decode cX10_sheet 55 = .ok (.iload_n 1, 1) := by decide +kernel
theorem dX10_sheet_56 : decode cX10_sheet 56 = .ok (.ifCond .ne 9, 3) := by decide +kernel
theorem dX10_sheet_59 : decode cX10_sheet 59 = .ok (.iload 6, 2) := by decide +kernel
theorem dX10_sheet_61 : decode cX10_sheet 61 = .ok (.i2b, 1) := by decide +kernel
theorem dX10_sheet_62 : decode cX10_sheet 62 = .ok (.goto 16, 3) := by decide +kernel
theorem dX10_sheet_65 : decode cX10_sheet 65 = .ok (.iload_n 1, 1) := by decide +kernel
theorem dX10_sheet_66 : decode cX10_sheet 66 = .ok (.iconst 1, 1) := by decide +kernel
theorem dX10_sheet_67 : decode cX10_sheet 67 = .ok (.if_icmp .ne 9, 3) := by decide +kernel
theorem dX10_sheet_70 : decode cX10_sheet 70 = .ok (.iload 6, 2) := by decide +kernel
theorem dX10_sheet_72 : decode cX10_sheet 72 = .ok (.i2s, 1) := by decide +kernel
theorem dX10_sheet_73 : decode cX10_sheet 73 = .ok (.goto 5, 3) := by decide +kernel
theorem dX10_sheet_76 : decode cX10_sheet 76 = .ok (.iload 6, 2) := by decide +kernel
theorem dX10_sheet_78 : decode cX10_sheet 78 = .ok (.istore 8, 2) := by decide +kernel
theorem dX10_sheet_80 : decode cX10_sheet 80 = .ok (.aload_n 0, 1) := by decide +kernel
theorem dX10_sheet_81 : decode cX10_sheet 81 = .ok (.getfield 38, 3) := by decide +kernel
theorem dX10_sheet_84 : decode cX10_sheet 84 = .ok (.iload 7, 2) := by decide +kernel
theorem dX10_sheet_86 : decode cX10_sheet 86 = .ok (.iload_n 1, 1) := by decide +kernel
theorem dX10_sheet_87 : decode cX10_sheet 87 = .ok (.iconst 3, 1) := by decide +kernel
theorem dX10_sheet_88 : decode cX10_sheet 88 = .ok (.if_icmp .eq 9, 3) := by decide +kernel
theorem dX10_sheet_91 : decode cX10_sheet 91 = .ok (.iload 7, 2) := by decide +kernel
theorem dX10_sheet_93 : decode cX10_sheet 93 = .ok (.iload_n 2, 1) := by decide +kernel
theorem dX10_sheet_94 : decode cX10_sheet 94 = .ok (.if_icmp .lt 7, 3) := by decide +kernel
theorem dX10_sheet_97 : decode cX10_sheet 97 = .ok (.iconst 1, 1) := by decide +kernel
theorem dX10_sheet_98 : decode cX10_sheet 98 = .ok (.goto 14, 3) := by decide +kernel
theorem dX10_sheet_101 : decode cX10_sheet 101 = .ok (.iconst 1, 1) := by decide +kernel
theorem dX10_sheet_102 : decode cX10_sheet 102 = .ok (.bipush 99, 2) := by decide +kernel
theorem dX10_sheet_104 : decode cX10_sheet 104 = .ok (.iload 8, 2) := by decide +kernel
theorem dX10_sheet_106 : decode cX10_sheet 106 = .ok (.invokestatic 136, 3) := by decide +kernel
theorem dX10_sheet_109 : decode cX10_sheet 109 = .ok (.invokestatic 245, 3) := by decide +kernel
theorem dX10_sheet_112 : decode cX10_sheet 112 = .ok (.iastore, 1) := by decide +kernel
theorem dX10_sheet_113 : decode cX10_sheet 113 = .ok (.iload 5, 2) := by decide +kernel
theorem dX10_sheet_115 : decode cX10_sheet 115 = .ok (.aload_n 0, 1) := by decide +kernel
theorem dX10_sheet_116 : decode cX10_sheet 116 = .ok (.getfield 38, 3) := by decide +kernel
theorem dX10_sheet_119 : decode cX10_sheet 119 = .ok (.iload 7, 2) := by decide +kernel
theorem dX10_sheet_121 : decode cX10_sheet 121 = .ok (.iaload, 1) := by decide +kernel
theorem dX10_sheet_122 : decode cX10_sheet 122 = .ok (.iadd, 1) := by decide +kernel
theorem dX10_sheet_123 : decode cX10_sheet 123 = .ok (.istore 5, 2) := by decide +kernel
theorem dX10_sheet_125 : decode cX10_sheet 125 = .ok (.iload 6, 2) := by decide +kernel
theorem dX10_sheet_127 : decode cX10_sheet 127 = .ok (.iload 4, 2) := by decide +kernel
theorem dX10_sheet_129 : decode cX10_sheet 129 = .ok (.iadd, 1) := by decide +kernel
theorem dX10_sheet_130 : decode cX10_sheet 130 = .ok (.istore 6, 2) := by decide +kernel
theorem dX10_sheet_132 : decode cX10_sheet 132 = .ok (.iinc 7 1, 3) := by decide +kernel
theorem dX10_sheet_135 : decode cX10_sheet 135 = .ok (.goto (-89), 3) := by decide +kernel
theorem dX10_sheet_138 : decode cX10_sheet 138 = .ok (.iload_n 1, 1) := by decide +kernel
theorem dX10_sheet_139 : decode cX10_sheet 139 = .ok (.iconst 3, 1) := by decide +kernel
theorem dX10_sheet_140 : decode cX10_sheet 140 = .ok (.if_icmp .ne 8, 3) := by decide +kernel
theorem dX10_sheet_143 : decode cX10_sheet 143 = .ok (.bipush (-3), 2) := by decide +kernel
theorem dX10_sheet_145 : decode cX10_sheet 145 = .ok (.goto 5, 3) := by decide +kernel
theorem dX10_sheet_148 : decode cX10_sheet 148 = .ok (.iload 5, 2) := by decide +kernel
theorem dX10_sheet_150 : decode cX10_sheet 150 = .ok (.ireturn, 1) := by decide +kernel
theorem dX10_putsBy_0 : decode cX10_putsBy 0 = .ok (.iconst 0, 1) := by decide +kernel
theorem dX10_putsBy_1 : decode cX10_putsBy 1 = .ok (.istore_n 1, 1) := by decide +kernel
theorem dX10_putsBy_2 : decode cX10_putsBy 2 = .ok (.iload_n 1, 1) := by decide +kernel
theorem dX10_putsBy_3 : decode cX10_putsBy 3 = .ok (.bipush 28, 2) := by decide +kernel
theorem dX10_putsBy_5 : decode cX10_putsBy 5 = .ok (.if_icmp .ge 29, 3) := by decide +kernel
theorem dX10_putsBy_8 : decode cX10_putsBy 8 = .ok (.aload_n 0, 1) := by decide +kernel
theorem dX10_putsBy_9 : decode cX10_putsBy 9 = .ok (.getfield 68, 3) := by decide +kernel
theorem dX10_putsBy_12 : decode cX10_putsBy 12 = .ok (.bipush 28, 2) := by decide +kernel
theorem dX10_putsBy_14 : decode cX10_putsBy 14 = .ok (.aload_n 0, 1) := by decide +kernel
theorem dX10_putsBy_15 : decode cX10_putsBy 15 = .ok (.getfield 191, 3) := by decide +kernel
theorem dX10_putsBy_18 : decode cX10_putsBy 18 = .ok (.imul, 1) := by decide +kernel
theorem dX10_putsBy_19 : decode cX10_putsBy 19 = .ok (.iload_n 1, 1) := by decide +kernel
theorem dX10_putsBy_20 : decode cX10_putsBy 20 = .ok (.iadd, 1) := by decide +kernel
theorem dX10_putsBy_21 : decode cX10_putsBy 21 = .ok (.aload_n 0, 1) := by decide +kernel
theorem dX10_putsBy_22 : decode cX10_putsBy 22 = .ok (.getfield 41, 3) := by decide +kernel
theorem dX10_putsBy_25 : decode cX10_putsBy 25 = .ok (.iload_n 1, 1) := by decide +kernel
theorem dX10_putsBy_26 : decode cX10_putsBy 26 = .ok (.iaload, 1) := by decide +kernel
theorem dX10_putsBy_27 : decode cX10_putsBy 27 = .ok (.iastore, 1) := by decide +kernel
theorem dX10_putsBy_28 : decode cX10_putsBy 28 = .ok (.iinc 1 1, 3) := by decide +kernel
theorem dX10_putsBy_31 : decode cX10_putsBy 31 = .ok (.goto (-29), 3) := by decide +kernel
theorem dX10_putsBy_34 : decode cX10_putsBy 34 = .ok (.return_, 1) := by decide +kernel
theorem dX10_adds_0 : decode cX10_adds 0 = .ok (.aload_n 0, 1) := by decide +kernel
theorem dX10_adds_1 : decode cX10_adds 1 = .ok (.dup, 1) := by decide +kernel
theorem dX10_adds_2 : decode cX10_adds 2 = .ok (.getfield 191, 3) := by decide +kernel
theorem dX10_adds_5 : decode cX10_adds 5 = .ok (.iconst 1, 1) := by decide +kernel
theorem dX10_adds_6 : decode cX10_adds 6 = .ok (.iadd, 1) := by decide +kernel
theorem dX10_adds_7 : decode cX10_adds 7 = .ok (.putfield 191, 3) := by decide +kernel
theorem dX10_adds_10 : decode cX10_adds 10 = .ok (.aload_n 0, 1) := by decide +kernel
theorem dX10_adds_11 : decode cX10_adds 11 = .ok (.getfield 191, 3) := by decide +kernel
theorem dX10_adds_14 : decode cX10_adds 14 = .ok (.bipush 15, 2) := by decide +kernel
theorem dX10_adds_16 : decode cX10_adds 16 = .ok (.if_icmp .le 43, 3) := by decide +kernel
theorem dX10_adds_19 : decode cX10_adds 19 = .ok (.iconst 0, 1) := by decide +kernel
theorem dX10_adds_20 : decode cX10_adds 20 = .ok (.istore_n 2, 1) := by decide +kernel
theorem dX10_adds_21 : decode cX10_adds 21 = .ok (.iload_n 2, 1) := by decide +kernel
theorem dX10_adds_22 : decode cX10_adds 22 = .ok (.sipush 420, 3) := by decide +kernel
theorem dX10_adds_25 : decode cX10_adds 25 = .ok (.if_icmp .ge 24, 3) := by decide +kernel
theorem dX10_adds_28 : decode cX10_adds 28 = .ok (.aload_n 0, 1) := by decide +kernel
theorem dX10_adds_29 : decode cX10_adds 29 = .ok (.getfield 68, 3) := by decide +kernel
theorem dX10_adds_32 : decode cX10_adds 32 = .ok (.iload_n 2, 1) := by decide +kernel
theorem dX10_adds_33 : decode cX10_adds 33 = .ok (.aload_n 0, 1) := by decide +kernel
theorem dX10_adds_34 : decode cX10_adds 34 = .ok (.getfield 68, 3) := by decide +kernel
theorem dX10_adds_37 : decode cX10_adds 37 = .ok (.iload_n 2, 1) := by decide +kernel
theorem dX10_adds_38 : decode cX10_adds 38 = .ok (.bipush 28, 2) := by decide +kernel
theorem dX10_adds_40 : decode cX10_adds 40 = .ok (.iadd, 1) := by decide +kernel
theorem dX10_adds_41 : decode cX10_adds 41 = .ok (.iaload, 1) := by decide +kernel
theorem dX10_adds_42 : decode cX10_adds 42 = .ok (.iastore, 1) := by decide +kernel
theorem dX10_adds_43 : decode cX10_adds 43 = .ok (.iinc 2 1, 3) := by decide +kernel
theorem dX10_adds_46 : decode cX10_adds 46 = .ok (.goto (-25), 3) := by decide +kernel
theorem dX10_adds_49 : decode cX10_adds 49 = .ok (.aload_n 0, 1) := by decide +kernel
theorem dX10_adds_50 : decode cX10_adds 50 = .ok (.dup, 1) := by decide +kernel
theorem dX10_adds_51 : decode cX10_adds 51 = .ok (.getfield 191, 3) := by decide +kernel
theorem dX10_adds_54 : decode cX10_adds 54 = .ok (.iconst 1, 1) := by decide +kernel
theorem dX10_adds_55 : decode cX10_adds 55 = .ok (.isub, 1) := by decide +kernel
theorem dX10_adds_56 : decode cX10_adds 56 = .ok (.putfield 191, 3) := by decide +kernel
theorem dX10_adds_59 : decode cX10_adds 59 = .ok (.iload_n 1, 1) := by decide +kernel
theorem dX10_adds_60 : decode cX10_adds 60 = .ok (.ireturn, 1) := by decide +kernel
theorem dX10_counted_0 : decode cX10_counted 0 = .ok (.iload_n 1, 1) := by decide +kernel
theorem dX10_counted_1 : decode cX10_counted 1 = .ok (.ifCond .ge 7, 3) := by decide +kernel
theorem dX10_counted_4 : decode cX10_counted 4 = .ok (.iload_n 1, 1) := by decide +kernel
theorem dX10_counted_5 : decode cX10_counted 5 = .ok (.goto 8, 3) := by decide +kernel
theorem dX10_counted_8 : decode cX10_counted 8 = .ok (.aload_n 0, 1) := by decide +kernel
theorem dX10_counted_9 : decode cX10_counted 9 = .ok (.iload_n 1, 1) := by decide +kernel
theorem dX10_counted_10 : decode cX10_counted 10 = .ok (.invokevirtual 268, 3) := by decide +kernel
theorem dX10_counted_13 : decode cX10_counted 13 = .ok (.ireturn, 1) := by decide +kernel
theorem dX10_undo_0 : decode cX10_undo 0 = .ok (.aload_n 0, 1) := by decide +kernel
theorem dX10_undo_1 : decode cX10_undo 1 = .ok (.iconst 0, 1) := by decide +kernel
theorem dX10_undo_2 : decode cX10_undo 2 = .ok (.putfield 3, 3) := by decide +kernel
theorem dX10_undo_5 : decode cX10_undo 5 = .ok (.aload_n 0, 1) := by decide +kernel
theorem dX10_undo_6 : decode cX10_undo 6 = .ok (.getfield 191, 3) := by decide +kernel
theorem dX10_undo_9 : decode cX10_undo 9 = .ok (.ifCond .ne 5, 3) := by decide +kernel
theorem dX10_undo_12 : decode cX10_undo 12 = .ok (.iconst (-1), 1) := by decide +kernel
theorem dX10_undo_13 : decode cX10_undo 13 = .ok (.ireturn, 1) := by decide +kernel
theorem dX10_undo_14 : decode cX10_undo 14 = .ok (.aload_n 0, 1) := by decide +kernel
theorem dX10_undo_15 : decode cX10_undo 15 = .ok (.dup, 1) := by decide +kernel
theorem dX10_undo_16 : decode cX10_undo 16 = .ok (.getfield 191, 3) := by decide +kernel
theorem dX10_undo_19 : decode cX10_undo 19 = .ok (.iconst 1, 1) := by decide +kernel
theorem dX10_undo_20 : decode cX10_undo 20 = .ok (.isub, 1) := by decide +kernel
theorem dX10_undo_21 : decode cX10_undo 21 = .ok (.putfield 191, 3) := by decide +kernel
theorem dX10_undo_24 : decode cX10_undo 24 = .ok (.iconst 0, 1) := by decide +kernel
theorem dX10_undo_25 : decode cX10_undo 25 = .ok (.istore_n 1, 1) := by decide +kernel
theorem dX10_undo_26 : decode cX10_undo 26 = .ok (.iload_n 1, 1) := by decide +kernel
theorem dX10_undo_27 : decode cX10_undo 27 = .ok (.bipush 28, 2) := by decide +kernel
theorem dX10_undo_29 : decode cX10_undo 29 = .ok (.if_icmp .ge 29, 3) := by decide +kernel
theorem dX10_undo_32 : decode cX10_undo 32 = .ok (.aload_n 0, 1) := by decide +kernel
theorem dX10_undo_33 : decode cX10_undo 33 = .ok (.getfield 41, 3) := by decide +kernel
theorem dX10_undo_36 : decode cX10_undo 36 = .ok (.iload_n 1, 1) := by decide +kernel
theorem dX10_undo_37 : decode cX10_undo 37 = .ok (.aload_n 0, 1) := by decide +kernel
theorem dX10_undo_38 : decode cX10_undo 38 = .ok (.getfield 68, 3) := by decide +kernel
theorem dX10_undo_41 : decode cX10_undo 41 = .ok (.bipush 28, 2) := by decide +kernel
theorem dX10_undo_43 : decode cX10_undo 43 = .ok (.aload_n 0, 1) := by decide +kernel
theorem dX10_undo_44 : decode cX10_undo 44 = .ok (.getfield 191, 3) := by decide +kernel
theorem dX10_undo_47 : decode cX10_undo 47 = .ok (.imul, 1) := by decide +kernel
theorem dX10_undo_48 : decode cX10_undo 48 = .ok (.iload_n 1, 1) := by decide +kernel
theorem dX10_undo_49 : decode cX10_undo 49 = .ok (.iadd, 1) := by decide +kernel
theorem dX10_undo_50 : decode cX10_undo 50 = .ok (.iaload, 1) := by decide +kernel
theorem dX10_undo_51 : decode cX10_undo 51 = .ok (.iastore, 1) := by decide +kernel
theorem dX10_undo_52 : decode cX10_undo 52 = .ok (.iinc 1 1, 3) := by decide +kernel
theorem dX10_undo_55 : decode cX10_undo 55 = .ok (.goto (-29), 3) := by decide +kernel
theorem dX10_undo_58 : decode cX10_undo 58 = .ok (.aload_n 0, 1) := by decide +kernel
theorem dX10_undo_59 : decode cX10_undo 59 = .ok (.getfield 191, 3) := by decide +kernel
theorem dX10_undo_62 : decode cX10_undo 62 = .ok (.ireturn, 1) := by decide +kernel
theorem dX10_monthGoes_0 : decode cX10_monthGoes 0 = .ok (.aload_n 1, 1) := by decide +kernel
theorem dX10_monthGoes_1 : decode cX10_monthGoes 1 = .ok (.bipush 25, 2) := by decide +kernel
theorem dX10_monthGoes_3 : decode cX10_monthGoes 3 = .ok (.iaload, 1) := by decide +kernel
theorem dX10_monthGoes_4 : decode cX10_monthGoes 4 = .ok (.aload_n 0, 1) := by decide +kernel
theorem dX10_monthGoes_5 : decode cX10_monthGoes 5 = .ok (.getfield 28, 3) := by decide +kernel
theorem dX10_monthGoes_8 : decode cX10_monthGoes 8 = .ok (.irem, 1) := by decide +kernel
theorem dX10_monthGoes_9 : decode cX10_monthGoes 9 = .ok (.istore_n 2, 1) := by decide +kernel
theorem dX10_monthGoes_10 : decode cX10_monthGoes 10 = .ok (.aload_n 1, 1) := by decide +kernel
theorem dX10_monthGoes_11 : decode cX10_monthGoes 11 = .ok (.bipush 27, 2) := by decide +kernel
theorem dX10_monthGoes_13 : decode cX10_monthGoes 13 = .ok (.iaload, 1) := by decide +kernel
theorem dX10_monthGoes_14 : decode cX10_monthGoes 14 = .ok (.ifCond .ne 68, 3) := by decide +kernel
theorem dX10_monthGoes_17 : decode cX10_monthGoes 17 = .ok (.aload_n 0, 1) := by decide +kernel
theorem dX10_monthGoes_18 : decode cX10_monthGoes 18 = .ok (.getfield 120, 3) := by decide +kernel
theorem dX10_monthGoes_21 : decode cX10_monthGoes 21 = .ok (.ifCond .le 61, 3) := by decide +kernel
theorem dX10_monthGoes_24 : decode cX10_monthGoes 24 = .ok (.aload_n 0, 1) := by decide +kernel
theorem dX10_monthGoes_25 : decode cX10_monthGoes 25 = .ok (.getfield 31, 3) := by decide +kernel
theorem dX10_monthGoes_28 : decode cX10_monthGoes 28 = .ok (.iload_n 2, 1) := by decide +kernel
theorem dX10_monthGoes_29 : decode cX10_monthGoes 29 = .ok (.iaload, 1) := by decide +kernel
theorem dX10_monthGoes_30 : decode cX10_monthGoes 30 = .ok (.ifCond .lt 52, 3) := by decide +kernel
theorem dX10_monthGoes_33 : decode cX10_monthGoes 33 = .ok (.aload_n 0, 1) := by decide +kernel
theorem dX10_monthGoes_34 : decode cX10_monthGoes 34 = .ok (.getfield 31, 3) := by decide +kernel
theorem dX10_monthGoes_37 : decode cX10_monthGoes 37 = .ok (.iload_n 2, 1) := by decide +kernel
theorem dX10_monthGoes_38 : decode cX10_monthGoes 38 = .ok (.iaload, 1) := by decide +kernel
theorem dX10_monthGoes_39 : decode cX10_monthGoes 39 = .ok (.iconst 0, 1) := by decide +kernel
theorem dX10_monthGoes_40 : decode cX10_monthGoes 40 = .ok (.invokestatic 248, 3) := by decide +kernel
theorem dX10_monthGoes_43 : decode cX10_monthGoes 43 = .ok (.istore_n 3, 1) := by decide +kernel
theorem dX10_monthGoes_44 : decode cX10_monthGoes 44 = .ok (.aload_n 1, 1) := by decide +kernel
theorem dX10_monthGoes_45 : decode cX10_monthGoes 45 = .ok (.iload_n 3, 1) := by decide +kernel
theorem dX10_monthGoes_46 : decode cX10_monthGoes 46 = .ok (.iaload, 1) := by decide +kernel
theorem dX10_monthGoes_47 : decode cX10_monthGoes 47 = .ok (.istore 4, 2) := by decide +kernel
theorem dX10_monthGoes_49 : decode cX10_monthGoes 49 = .ok (.aload_n 1, 1) := by decide +kernel
theorem dX10_monthGoes_50 : decode cX10_monthGoes 50 = .ok (.iload_n 3, 1) := by decide +kernel
theorem dX10_monthGoes_51 : decode cX10_monthGoes 51 = .ok (.ldc 241, 2) := by decide +kernel
theorem dX10_monthGoes_53 : decode cX10_monthGoes 53 = .ok (.aload_n 1, 1) := by decide +kernel
theorem dX10_monthGoes_54 : decode cX10_monthGoes 54 = .ok (.iload_n 3, 1) := by decide +kernel
theorem dX10_monthGoes_55 : decode cX10_monthGoes 55 = .ok (.iaload, 1) := by decide +kernel
theorem dX10_monthGoes_56 : decode cX10_monthGoes 56 = .ok (.aload_n 0, 1) := by decide +kernel
theorem dX10_monthGoes_57 : decode cX10_monthGoes 57 = .ok (.getfield 35, 3) := by decide +kernel
theorem dX10_monthGoes_60 : decode cX10_monthGoes 60 = .ok (.iload_n 2, 1) := by decide +kernel
theorem dX10_monthGoes_61 : decode cX10_monthGoes 61 = .ok (.iaload, 1) := by decide +kernel
theorem dX10_monthGoes_62 : decode cX10_monthGoes 62 = .ok (.iadd, 1) := by decide +kernel
theorem dX10_monthGoes_63 : decode cX10_monthGoes 63 = .ok (.invokestatic 136, 3) := by decide +kernel
theorem dX10_monthGoes_66 : decode cX10_monthGoes 66 = .ok (.iastore, 1) := by decide +kernel
theorem dX10_monthGoes_67 : decode cX10_monthGoes 67 = .ok (.aload_n 0, 1) := by decide +kernel
theorem dX10_monthGoes_68 : decode cX10_monthGoes 68 = .ok (.dup, 1) := by decide +kernel
theorem dX10_monthGoes_69 : decode cX10_monthGoes 69 = .ok (.getfield 271, 3) := by decide +kernel
theorem dX10_monthGoes_72 : decode cX10_monthGoes 72 = .ok (.aload_n 1, 1) := by decide +kernel
theorem dX10_monthGoes_73 : decode cX10_monthGoes 73 = .ok (.iload_n 3, 1) := by decide +kernel
theorem dX10_monthGoes_74 : decode cX10_monthGoes 74 = .ok (.iaload, 1) := by decide +kernel
theorem dX10_monthGoes_75 : decode cX10_monthGoes 75 = .ok (.iload 4, 2) := by decide +kernel
theorem dX10_monthGoes_77 : decode cX10_monthGoes 77 = .ok (.isub, 1) := by decide +kernel
theorem dX10_monthGoes_78 : decode cX10_monthGoes 78 = .ok (.iadd, 1) := by decide +kernel
theorem dX10_monthGoes_79 : decode cX10_monthGoes 79 = .ok (.putfield 271, 3) := by decide +kernel
theorem dX10_monthGoes_82 : decode cX10_monthGoes 82 = .ok (.iconst 0, 1) := by decide +kernel
theorem dX10_monthGoes_83 : decode cX10_monthGoes 83 = .ok (.istore_n 3, 1) := by decide +kernel
theorem dX10_monthGoes_84 : decode cX10_monthGoes 84 = .ok (.iload_n 3, 1) := by decide +kernel
theorem dX10_monthGoes_85 : decode cX10_monthGoes 85 = .ok (.bipush 12, 2) := by decide +kernel
theorem dX10_monthGoes_87 : decode cX10_monthGoes 87 = .ok (.if_icmp .ge 43, 3) := by decide +kernel
theorem dX10_monthGoes_90 : decode cX10_monthGoes 90 = .ok (.aload_n 0, 1) := by decide +kernel
theorem dX10_monthGoes_91 : decode cX10_monthGoes 91 = .ok (.getfield 71, 3) := by decide +kernel
theorem dX10_monthGoes_94 : decode cX10_monthGoes 94 = .ok (.iload_n 3, 1) := by decide +kernel
theorem dX10_monthGoes_95 : decode cX10_monthGoes 95 = .ok (.iload_n 3, 1) := by decide +kernel
theorem dX10_monthGoes_96 : decode cX10_monthGoes 96 = .ok (.bipush 6, 2) := by decide +kernel
theorem dX10_monthGoes_98 : decode cX10_monthGoes 98 = .ok (.irem, 1) := by decide +kernel
theorem dX10_monthGoes_99 : decode cX10_monthGoes 99 = .ok (.aload_n 0, 1) := by decide +kernel
theorem dX10_monthGoes_100 : decode cX10_monthGoes 100 = .ok (.getfield 120, 3) := by decide +kernel
theorem dX10_monthGoes_103 : decode cX10_monthGoes 103 = .ok (.iconst 1, 1) := by decide +kernel
theorem dX10_monthGoes_104 : decode cX10_monthGoes 104 = .ok (.isub, 1) := by decide +kernel
theorem dX10_monthGoes_105 : decode cX10_monthGoes 105 = .ok (.if_icmp .ge 17, 3) := by decide +kernel
theorem dX10_monthGoes_108 : decode cX10_monthGoes 108 = .ok (.aload_n 1, 1) := by decide +kernel
theorem dX10_monthGoes_109 : decode cX10_monthGoes 109 = .ok (.iload_n 3, 1) := by decide +kernel
theorem dX10_monthGoes_110 : decode cX10_monthGoes 110 = .ok (.iaload, 1) := by decide +kernel
theorem dX10_monthGoes_111 : decode cX10_monthGoes 111 = .ok (.aload_n 1, 1) := by decide +kernel
theorem dX10_monthGoes_112 : decode cX10_monthGoes 112 = .ok (.bipush 24, 2) := by decide +kernel
theorem dX10_monthGoes_114 : decode cX10_monthGoes 114 = .ok (.iaload, 1) := by decide +kernel
theorem dX10_monthGoes_115 : decode cX10_monthGoes 115 = .ok (.imul, 1) := by decide +kernel
theorem dX10_monthGoes_116 : decode cX10_monthGoes 116 = .ok (.bipush 10, 2) := by decide +kernel
theorem dX10_monthGoes_118 : decode cX10_monthGoes 118 = .ok (.idiv, 1) := by decide +kernel
theorem dX10_monthGoes_119 : decode cX10_monthGoes 119 = .ok (.goto 4, 3) := by decide +kernel
theorem dX10_monthGoes_122 : decode cX10_monthGoes 122 = .ok (.iconst 0, 1) := by decide +kernel
theorem dX10_monthGoes_123 : decode cX10_monthGoes 123 = .ok (.iastore, 1) := by decide +kernel
theorem dX10_monthGoes_124 : decode cX10_monthGoes 124 = .ok (.iinc 3 1, 3) := by decide +kernel
theorem dX10_monthGoes_127 : decode cX10_monthGoes 127 = .ok (.goto (-43), 3) := by decide +kernel
theorem dX10_monthGoes_130 : decode cX10_monthGoes 130 = .ok (.iconst 0, 1) := by decide +kernel
theorem dX10_monthGoes_131 : decode cX10_monthGoes 131 = .ok (.istore_n 3, 1) := by decide +kernel
theorem dX10_monthGoes_132 : decode cX10_monthGoes 132 = .ok (.iload_n 3, 1) := by decide +kernel
theorem dX10_monthGoes_133 : decode cX10_monthGoes 133 = .ok (.bipush 12, 2) := by decide +kernel
theorem dX10_monthGoes_135 : decode cX10_monthGoes 135 = .ok (.if_icmp .ge 51, 3) := by decide +kernel
theorem dX10_monthGoes_138 : decode cX10_monthGoes 138 = .ok (.iload_n 3, 1) := by decide +kernel
theorem dX10_monthGoes_139 : decode cX10_monthGoes 139 = .ok (.bipush 6, 2) := by decide +kernel
theorem dX10_monthGoes_141 : decode cX10_monthGoes 141 = .ok (.irem, 1) := by decide +kernel
theorem dX10_monthGoes_142 : decode cX10_monthGoes 142 = .ok (.ifCond .le 14, 3) := by decide +kernel
theorem dX10_monthGoes_145 : decode cX10_monthGoes 145 = .ok (.aload_n 0, 1) := by decide +kernel
theorem dX10_monthGoes_146 : decode cX10_monthGoes 146 = .ok (.getfield 71, 3) := by decide +kernel
theorem dX10_monthGoes_149 : decode cX10_monthGoes 149 = .ok (.iload_n 3, 1) := by decide +kernel
theorem dX10_monthGoes_150 : decode cX10_monthGoes 150 = .ok (.iconst 1, 1) := by decide +kernel
theorem dX10_monthGoes_151 : decode cX10_monthGoes 151 = .ok (.isub, 1) := by decide +kernel
theorem dX10_monthGoes_152 : decode cX10_monthGoes 152 = .ok (.iaload, 1) := by decide +kernel
theorem dX10_monthGoes_153 : decode cX10_monthGoes 153 = .ok (.goto 4, 3) := by decide +kernel
theorem dX10_monthGoes_156 : decode cX10_monthGoes 156 = .ok (.iconst 0, 1) := by decide +kernel
theorem dX10_monthGoes_157 : decode cX10_monthGoes 157 = .ok (.istore 4, 2) := by decide +kernel
theorem dX10_monthGoes_159 : decode cX10_monthGoes 159 = .ok (.aload_n 1, 1) := by decide +kernel
theorem dX10_monthGoes_160 : decode cX10_monthGoes 160 = .ok (.iload_n 3, 1) := by decide +kernel
theorem dX10_monthGoes_161 : decode cX10_monthGoes 161 = .ok (.ldc 241, 2) := by decide +kernel
theorem dX10_monthGoes_163 : decode cX10_monthGoes 163 = .ok (.aload_n 1, 1) := by decide +kernel
theorem dX10_monthGoes_164 : decode cX10_monthGoes 164 = .ok (.iload_n 3, 1) := by decide +kernel
theorem dX10_monthGoes_165 : decode cX10_monthGoes 165 = .ok (.iaload, 1) := by decide +kernel
theorem dX10_monthGoes_166 : decode cX10_monthGoes 166 = .ok (.aload_n 0, 1) := by decide +kernel
theorem dX10_monthGoes_167 : decode cX10_monthGoes 167 = .ok (.getfield 71, 3) := by decide +kernel
theorem dX10_monthGoes_170 : decode cX10_monthGoes 170 = .ok (.iload_n 3, 1) := by decide +kernel
theorem dX10_monthGoes_171 : decode cX10_monthGoes 171 = .ok (.iaload, 1) := by decide +kernel
theorem dX10_monthGoes_172 : decode cX10_monthGoes 172 = .ok (.isub, 1) := by decide +kernel
theorem dX10_monthGoes_173 : decode cX10_monthGoes 173 = .ok (.iload 4, 2) := by decide +kernel
theorem dX10_monthGoes_175 : decode cX10_monthGoes 175 = .ok (.iadd, 1) := by decide +kernel
theorem dX10_monthGoes_176 : decode cX10_monthGoes 176 = .ok (.invokestatic 136, 3) := by decide +kernel
theorem dX10_monthGoes_179 : decode cX10_monthGoes 179 = .ok (.iastore, 1) := by decide +kernel
theorem dX10_monthGoes_180 : decode cX10_monthGoes 180 = .ok (.iinc 3 1, 3) := by decide +kernel
theorem dX10_monthGoes_183 : decode cX10_monthGoes 183 = .ok (.goto (-51), 3) := by decide +kernel
theorem dX10_monthGoes_186 : decode cX10_monthGoes 186 = .ok (.aload_n 1, 1) := by decide +kernel
theorem dX10_monthGoes_187 : decode cX10_monthGoes 187 = .ok (.bipush 25, 2) := by decide +kernel
theorem dX10_monthGoes_189 : decode cX10_monthGoes 189 = .ok (.dup2, 1) := by decide +kernel
theorem dX10_monthGoes_190 : decode cX10_monthGoes 190 = .ok (.iaload, 1) := by decide +kernel
theorem dX10_monthGoes_191 : decode cX10_monthGoes 191 = .ok (.iconst 1, 1) := by decide +kernel
theorem dX10_monthGoes_192 : decode cX10_monthGoes 192 = .ok (.iadd, 1) := by decide +kernel
theorem dX10_monthGoes_193 : decode cX10_monthGoes 193 = .ok (.iastore, 1) := by decide +kernel
theorem dX10_monthGoes_194 : decode cX10_monthGoes 194 = .ok (.return_, 1) := by decide +kernel
theorem dX10_goesOn_0 : decode cX10_goesOn 0 = .ok (.iconst 0, 1) := by decide +kernel
theorem dX10_goesOn_1 : decode cX10_goesOn 1 = .ok (.istore_n 3, 1) := by decide +kernel
theorem dX10_goesOn_2 : decode cX10_goesOn 2 = .ok (.iload_n 3, 1) := by decide +kernel
theorem dX10_goesOn_3 : decode cX10_goesOn 3 = .ok (.iload_n 2, 1) := by decide +kernel
theorem dX10_goesOn_4 : decode cX10_goesOn 4 = .ok (.if_icmp .ge 14, 3) := by decide +kernel
theorem dX10_goesOn_7 : decode cX10_goesOn 7 = .ok (.aload_n 0, 1) := by decide +kernel
theorem dX10_goesOn_8 : decode cX10_goesOn 8 = .ok (.aload_n 1, 1) := by decide +kernel
theorem dX10_goesOn_9 : decode cX10_goesOn 9 = .ok (.invokevirtual 274, 3) := by decide +kernel
theorem dX10_goesOn_12 : decode cX10_goesOn 12 = .ok (.iinc 3 1, 3) := by decide +kernel
theorem dX10_goesOn_15 : decode cX10_goesOn 15 = .ok (.goto (-13), 3) := by decide +kernel
theorem dX10_goesOn_18 : decode cX10_goesOn 18 = .ok (.return_, 1) := by decide +kernel
theorem dX10_isSome_0 : decode cX10_isSome 0 = .ok (.iload_n 0, 1) := by decide +kernel
theorem dX10_isSome_1 : decode cX10_isSome 1 = .ok (.i2l, 1) := by decide +kernel
theorem dX10_isSome_2 : decode cX10_isSome 2 = .ok (.lconst 1, 1) := by decide +kernel
theorem dX10_isSome_3 : decode cX10_isSome 3 = .ok (.ldc2_w 278, 3) := by decide +kernel
theorem dX10_isSome_6 : decode cX10_isSome 6 = .ok (.invokestatic 123, 3) := by decide +kernel
theorem dX10_isSome_9 : decode cX10_isSome 9 = .ok (.ireturn, 1) := by decide +kernel
theorem dX10_laysBy_0 : decode cX10_laysBy 0 = .ok (.aload_n 0, 1) := by decide +kernel
theorem dX10_laysBy_1 : decode cX10_laysBy 1 = .ok (.iload_n 1, 1) := by decide +kernel
theorem dX10_laysBy_2 : decode cX10_laysBy 2 = .ok (.invokevirtual 254, 3) := by decide +kernel
theorem dX10_laysBy_5 : decode cX10_laysBy 5 = .ok (.ifCond .eq 17, 3) := by decide +kernel
theorem dX10_laysBy_8 : decode cX10_laysBy 8 = .ok (.iload_n 2, 1) := by decide +kernel
theorem dX10_laysBy_9 : decode cX10_laysBy 9 = .ok (.invokestatic 280, 3) := by decide +kernel
theorem dX10_laysBy_12 : decode cX10_laysBy 12 = .ok (.ifCond .eq 10, 3) := by decide +kernel
theorem dX10_laysBy_15 : decode cX10_laysBy 15 = .ok (.iload_n 3, 1) := by decide +kernel
theorem dX10_laysBy_16 : decode cX10_laysBy 16 = .ok (.invokestatic 283, 3) := by decide +kernel
theorem dX10_laysBy_19 : decode cX10_laysBy 19 = .ok (.ifCond .ne 5, 3) := by decide +kernel
theorem dX10_laysBy_22 : decode cX10_laysBy 22 = .ok (.iconst (-1), 1) := by decide +kernel
theorem dX10_laysBy_23 : decode cX10_laysBy 23 = .ok (.ireturn, 1) := by decide +kernel
theorem dX10_laysBy_24 : decode cX10_laysBy 24 = .ok (.iload_n 2, 1) := by decide +kernel
theorem dX10_laysBy_25 : decode cX10_laysBy 25 = .ok (.iload_n 1, 1) := by decide +kernel
theorem dX10_laysBy_26 : decode cX10_laysBy 26 = .ok (.invokestatic 248, 3) := by decide +kernel
theorem dX10_laysBy_29 : decode cX10_laysBy 29 = .ok (.istore 4, 2) := by decide +kernel
theorem dX10_laysBy_31 : decode cX10_laysBy 31 = .ok (.aload_n 0, 1) := by decide +kernel
theorem dX10_laysBy_32 : decode cX10_laysBy 32 = .ok (.getfield 41, 3) := by decide +kernel
theorem dX10_laysBy_35 : decode cX10_laysBy 35 = .ok (.iload 4, 2) := by decide +kernel
theorem dX10_laysBy_37 : decode cX10_laysBy 37 = .ok (.iaload, 1) := by decide +kernel
theorem dX10_laysBy_38 : decode cX10_laysBy 38 = .ok (.iload_n 3, 1) := by decide +kernel
theorem dX10_laysBy_39 : decode cX10_laysBy 39 = .ok (.if_icmp .ge 6, 3) := by decide +kernel
theorem dX10_laysBy_42 : decode cX10_laysBy 42 = .ok (.bipush (-2), 2) := by decide +kernel
theorem dX10_laysBy_44 : decode cX10_laysBy 44 = .ok (.ireturn, 1) := by decide +kernel
theorem dX10_laysBy_45 : decode cX10_laysBy 45 = .ok (.aload_n 0, 1) := by decide +kernel
theorem dX10_laysBy_46 : decode cX10_laysBy 46 = .ok (.getfield 41, 3) := by decide +kernel
theorem dX10_laysBy_49 : decode cX10_laysBy 49 = .ok (.bipush 12, 2) := by decide +kernel
theorem dX10_laysBy_51 : decode cX10_laysBy 51 = .ok (.iload 4, 2) := by decide +kernel
theorem dX10_laysBy_53 : decode cX10_laysBy 53 = .ok (.iadd, 1) := by decide +kernel
theorem dX10_laysBy_54 : decode cX10_laysBy 54 = .ok (.iaload, 1) := by decide +kernel
theorem dX10_laysBy_55 : decode cX10_laysBy 55 = .ok (.iload_n 3, 1) := by decide +kernel
theorem dX10_laysBy_56 : decode cX10_laysBy 56 = .ok (.iadd, 1) := by decide +kernel
theorem dX10_laysBy_57 : decode cX10_laysBy 57 = .ok (.ldc 241, 2) := by decide +kernel
theorem dX10_laysBy_59 : decode cX10_laysBy 59 = .ok (.if_icmp .le 6, 3) := by decide +kernel
theorem dX10_laysBy_62 : decode cX10_laysBy 62 = .ok (.bipush (-3), 2) := by decide +kernel
theorem dX10_laysBy_64 : decode cX10_laysBy 64 = .ok (.ireturn, 1) := by decide +kernel
theorem dX10_laysBy_65 : decode cX10_laysBy 65 = .ok (.aload_n 0, 1) := by decide +kernel
theorem dX10_laysBy_66 : decode cX10_laysBy 66 = .ok (.getfield 41, 3) := by decide +kernel
theorem dX10_laysBy_69 : decode cX10_laysBy 69 = .ok (.iload 4, 2) := by decide +kernel
theorem dX10_laysBy_71 : decode cX10_laysBy 71 = .ok (.dup2, 1) := by decide +kernel
theorem dX10_laysBy_72 : decode cX10_laysBy 72 = .ok (.iaload, 1) := by decide +kernel
theorem dX10_laysBy_73 : decode cX10_laysBy 73 = .ok (.iload_n 3, 1) := by decide +kernel
theorem dX10_laysBy_74 : decode cX10_laysBy 74 = .ok (.isub, 1) := by decide +kernel
theorem dX10_laysBy_75 : decode cX10_laysBy 75 = .ok (.iastore, 1) := by decide +kernel
theorem dX10_laysBy_76 : decode cX10_laysBy 76 = .ok (.aload_n 0, 1) := by decide +kernel
theorem dX10_laysBy_77 : decode cX10_laysBy 77 = .ok (.getfield 41, 3) := by decide +kernel
theorem dX10_laysBy_80 : decode cX10_laysBy 80 = .ok (.bipush 12, 2) := by decide +kernel
theorem dX10_laysBy_82 : decode cX10_laysBy 82 = .ok (.iload 4, 2) := by decide +kernel
theorem dX10_laysBy_84 : decode cX10_laysBy 84 = .ok (.iadd, 1) := by decide +kernel
theorem dX10_laysBy_85 : decode cX10_laysBy 85 = .ok (.dup2, 1) := by decide +kernel
theorem dX10_laysBy_86 : decode cX10_laysBy 86 = .ok (.iaload, 1) := by decide +kernel
theorem dX10_laysBy_87 : decode cX10_laysBy 87 = .ok (.iload_n 3, 1) := by decide +kernel
theorem dX10_laysBy_88 : decode cX10_laysBy 88 = .ok (.iadd, 1) := by decide +kernel
theorem dX10_laysBy_89 : decode cX10_laysBy 89 = .ok (.iastore, 1) := by decide +kernel
theorem dX10_laysBy_90 : decode cX10_laysBy 90 = .ok (.aload_n 0, 1) := by decide +kernel
theorem dX10_laysBy_91 : decode cX10_laysBy 91 = .ok (.getfield 41, 3) := by decide +kernel
theorem dX10_laysBy_94 : decode cX10_laysBy 94 = .ok (.bipush 12, 2) := by decide +kernel
theorem dX10_laysBy_96 : decode cX10_laysBy 96 = .ok (.iload 4, 2) := by decide +kernel
theorem dX10_laysBy_98 : decode cX10_laysBy 98 = .ok (.iadd, 1) := by decide +kernel
theorem dX10_laysBy_99 : decode cX10_laysBy 99 = .ok (.iaload, 1) := by decide +kernel
theorem dX10_laysBy_100 : decode cX10_laysBy 100 = .ok (.ireturn, 1) := by decide +kernel
theorem dX10_spendsOf_0 : decode cX10_spendsOf 0 = .ok (.aload_n 0, 1) := by decide +kernel
theorem dX10_spendsOf_1 : decode cX10_spendsOf 1 = .ok (.iload_n 1, 1) := by decide +kernel
theorem dX10_spendsOf_2 : decode cX10_spendsOf 2 = .ok (.invokevirtual 254, 3) := by decide +kernel
theorem dX10_spendsOf_5 : decode cX10_spendsOf 5 = .ok (.ifCond .eq 17, 3) := by decide +kernel
theorem dX10_spendsOf_8 : decode cX10_spendsOf 8 = .ok (.iload_n 2, 1) := by decide +kernel
theorem dX10_spendsOf_9 : decode cX10_spendsOf 9 = .ok (.invokestatic 280, 3) := by decide +kernel
theorem dX10_spendsOf_12 : decode cX10_spendsOf 12 = .ok (.ifCond .eq 10, 3) := by decide +kernel
theorem dX10_spendsOf_15 : decode cX10_spendsOf 15 = .ok (.iload_n 3, 1) := by decide +kernel
theorem dX10_spendsOf_16 : decode cX10_spendsOf 16 = .ok (.invokestatic 283, 3) := by decide +kernel
theorem dX10_spendsOf_19 : decode cX10_spendsOf 19 = .ok (.ifCond .ne 5, 3) := by decide +kernel
theorem dX10_spendsOf_22 : decode cX10_spendsOf 22 = .ok (.iconst (-1), 1) := by decide +kernel
theorem dX10_spendsOf_23 : decode cX10_spendsOf 23 = .ok (.ireturn, 1) := by decide +kernel
theorem dX10_spendsOf_24 : decode cX10_spendsOf 24 = .ok (.iload_n 2, 1) := by decide +kernel
theorem dX10_spendsOf_25 : decode cX10_spendsOf 25 = .ok (.iload_n 1, 1) := by decide +kernel
theorem dX10_spendsOf_26 : decode cX10_spendsOf 26 = .ok (.invokestatic 248, 3) := by decide +kernel
theorem dX10_spendsOf_29 : decode cX10_spendsOf 29 = .ok (.istore 4, 2) := by decide +kernel
theorem dX10_spendsOf_31 : decode cX10_spendsOf 31 = .ok (.aload_n 0, 1) := by decide +kernel
theorem dX10_spendsOf_32 : decode cX10_spendsOf 32 = .ok (.getfield 41, 3) := by decide +kernel
theorem dX10_spendsOf_35 : decode cX10_spendsOf 35 = .ok (.bipush 12, 2) := by decide +kernel
theorem dX10_spendsOf_37 : decode cX10_spendsOf 37 = .ok (.iload 4, 2) := by decide +kernel
theorem dX10_spendsOf_39 : decode cX10_spendsOf 39 = .ok (.iadd, 1) := by decide +kernel
theorem dX10_spendsOf_40 : decode cX10_spendsOf 40 = .ok (.iaload, 1) := by decide +kernel
theorem dX10_spendsOf_41 : decode cX10_spendsOf 41 = .ok (.iload_n 3, 1) := by decide +kernel
theorem dX10_spendsOf_42 : decode cX10_spendsOf 42 = .ok (.if_icmp .ge 6, 3) := by decide +kernel
theorem dX10_spendsOf_45 : decode cX10_spendsOf 45 = .ok (.bipush (-2), 2) := by decide +kernel
theorem dX10_spendsOf_47 : decode cX10_spendsOf 47 = .ok (.ireturn, 1) := by decide +kernel
theorem dX10_spendsOf_48 : decode cX10_spendsOf 48 = .ok (.aload_n 0, 1) := by decide +kernel
theorem dX10_spendsOf_49 : decode cX10_spendsOf 49 = .ok (.getfield 41, 3) := by decide +kernel
theorem dX10_spendsOf_52 : decode cX10_spendsOf 52 = .ok (.bipush 12, 2) := by decide +kernel
theorem dX10_spendsOf_54 : decode cX10_spendsOf 54 = .ok (.iload 4, 2) := by decide +kernel
theorem dX10_spendsOf_56 : decode cX10_spendsOf 56 = .ok (.iadd, 1) := by decide +kernel
theorem dX10_spendsOf_57 : decode cX10_spendsOf 57 = .ok (.dup2, 1) := by decide +kernel
theorem dX10_spendsOf_58 : decode cX10_spendsOf 58 = .ok (.iaload, 1) := by decide +kernel
theorem dX10_spendsOf_59 : decode cX10_spendsOf 59 = .ok (.iload_n 3, 1) := by decide +kernel
theorem dX10_spendsOf_60 : decode cX10_spendsOf 60 = .ok (.isub, 1) := by decide +kernel
theorem dX10_spendsOf_61 : decode cX10_spendsOf 61 = .ok (.iastore, 1) := by decide +kernel
theorem dX10_spendsOf_62 : decode cX10_spendsOf 62 = .ok (.aload_n 0, 1) := by decide +kernel
theorem dX10_spendsOf_63 : decode cX10_spendsOf 63 = .ok (.getfield 41, 3) := by decide +kernel
theorem dX10_spendsOf_66 : decode cX10_spendsOf 66 = .ok (.iload 4, 2) := by decide +kernel
theorem dX10_spendsOf_68 : decode cX10_spendsOf 68 = .ok (.ldc 241, 2) := by decide +kernel
theorem dX10_spendsOf_70 : decode cX10_spendsOf 70 = .ok (.aload_n 0, 1) := by decide +kernel
theorem dX10_spendsOf_71 : decode cX10_spendsOf 71 = .ok (.getfield 41, 3) := by decide +kernel
theorem dX10_spendsOf_74 : decode cX10_spendsOf 74 = .ok (.iload 4, 2) := by decide +kernel
theorem dX10_spendsOf_76 : decode cX10_spendsOf 76 = .ok (.iaload, 1) := by decide +kernel
theorem dX10_spendsOf_77 : decode cX10_spendsOf 77 = .ok (.iload_n 3, 1) := by decide +kernel
theorem dX10_spendsOf_78 : decode cX10_spendsOf 78 = .ok (.iadd, 1) := by decide +kernel
theorem dX10_spendsOf_79 : decode cX10_spendsOf 79 = .ok (.invokestatic 136, 3) := by decide +kernel
theorem dX10_spendsOf_82 : decode cX10_spendsOf 82 = .ok (.iastore, 1) := by decide +kernel
theorem dX10_spendsOf_83 : decode cX10_spendsOf 83 = .ok (.aload_n 0, 1) := by decide +kernel
theorem dX10_spendsOf_84 : decode cX10_spendsOf 84 = .ok (.getfield 41, 3) := by decide +kernel
theorem dX10_spendsOf_87 : decode cX10_spendsOf 87 = .ok (.bipush 12, 2) := by decide +kernel
theorem dX10_spendsOf_89 : decode cX10_spendsOf 89 = .ok (.iload 4, 2) := by decide +kernel
theorem dX10_spendsOf_91 : decode cX10_spendsOf 91 = .ok (.iadd, 1) := by decide +kernel
theorem dX10_spendsOf_92 : decode cX10_spendsOf 92 = .ok (.iaload, 1) := by decide +kernel
theorem dX10_spendsOf_93 : decode cX10_spendsOf 93 = .ok (.ireturn, 1) := by decide +kernel
theorem dX10_taxesOf_0 : decode cX10_taxesOf 0 = .ok (.aload_n 0, 1) := by decide +kernel
theorem dX10_taxesOf_1 : decode cX10_taxesOf 1 = .ok (.iload_n 2, 1) := by decide +kernel
theorem dX10_taxesOf_2 : decode cX10_taxesOf 2 = .ok (.invokevirtual 254, 3) := by decide +kernel
theorem dX10_taxesOf_5 : decode cX10_taxesOf 5 = .ok (.ifCond .eq 15, 3) := by decide +kernel
theorem dX10_taxesOf_8 : decode cX10_taxesOf 8 = .ok (.iload_n 3, 1) := by decide +kernel
theorem dX10_taxesOf_9 : decode cX10_taxesOf 9 = .ok (.i2l, 1) := by decide +kernel
theorem dX10_taxesOf_10 : decode cX10_taxesOf 10 = .ok (.lconst 1, 1) := by decide +kernel
theorem dX10_taxesOf_11 : decode cX10_taxesOf 11 = .ok (.ldc2_w 286, 3) := by decide +kernel
theorem dX10_taxesOf_14 : decode cX10_taxesOf 14 = .ok (.invokestatic 123, 3) := by decide +kernel
theorem dX10_taxesOf_17 : decode cX10_taxesOf 17 = .ok (.ifCond .ne 5, 3) := by decide +kernel
theorem dX10_taxesOf_20 : decode cX10_taxesOf 20 = .ok (.iconst (-1), 1) := by decide +kernel
theorem dX10_taxesOf_21 : decode cX10_taxesOf 21 = .ok (.ireturn, 1) := by decide +kernel
theorem dX10_taxesOf_22 : decode cX10_taxesOf 22 = .ok (.iconst 0, 1) := by decide +kernel
theorem dX10_taxesOf_23 : decode cX10_taxesOf 23 = .ok (.istore 4, 2) := by decide +kernel
theorem dX10_taxesOf_25 : decode cX10_taxesOf 25 = .ok (.iload 4, 2) := by decide +kernel
theorem dX10_taxesOf_27 : decode cX10_taxesOf 27 = .ok (.iconst 1, 1) := by decide +kernel
theorem dX10_taxesOf_28 : decode cX10_taxesOf 28 = .ok (.if_icmp .gt 54, 3) := by decide +kernel
theorem dX10_taxesOf_31 : decode cX10_taxesOf 31 = .ok (.aload_n 1, 1) := by decide +kernel
theorem dX10_taxesOf_32 : decode cX10_taxesOf 32 = .ok (.iload 4, 2) := by decide +kernel
theorem dX10_taxesOf_34 : decode cX10_taxesOf 34 = .ok (.iload_n 2, 1) := by decide +kernel
theorem dX10_taxesOf_35 : decode cX10_taxesOf 35 = .ok (.invokestatic 248, 3) := by decide +kernel
theorem dX10_taxesOf_38 : decode cX10_taxesOf 38 = .ok (.iaload, 1) := by decide +kernel
theorem dX10_taxesOf_39 : decode cX10_taxesOf 39 = .ok (.iload_n 3, 1) := by decide +kernel
theorem dX10_taxesOf_40 : decode cX10_taxesOf 40 = .ok (.imul, 1) := by decide +kernel
theorem dX10_taxesOf_41 : decode cX10_taxesOf 41 = .ok (.bipush 10, 2) := by decide +kernel
theorem dX10_taxesOf_43 : decode cX10_taxesOf 43 = .ok (.idiv, 1) := by decide +kernel
theorem dX10_taxesOf_44 : decode cX10_taxesOf 44 = .ok (.istore 5, 2) := by decide +kernel
theorem dX10_taxesOf_46 : decode cX10_taxesOf 46 = .ok (.aload_n 1, 1) := by decide +kernel
theorem dX10_taxesOf_47 : decode cX10_taxesOf 47 = .ok (.iload 4, 2) := by decide +kernel
theorem dX10_taxesOf_49 : decode cX10_taxesOf 49 = .ok (.iload_n 2, 1) := by decide +kernel
theorem dX10_taxesOf_50 : decode cX10_taxesOf 50 = .ok (.invokestatic 248, 3) := by decide +kernel
theorem dX10_taxesOf_53 : decode cX10_taxesOf 53 = .ok (.dup2, 1) := by decide +kernel
theorem dX10_taxesOf_54 : decode cX10_taxesOf 54 = .ok (.iaload, 1) := by decide +kernel
theorem dX10_taxesOf_55 : decode cX10_taxesOf 55 = .ok (.iload 5, 2) := by decide +kernel
theorem dX10_taxesOf_57 : decode cX10_taxesOf 57 = .ok (.isub, 1) := by decide +kernel
theorem dX10_taxesOf_58 : decode cX10_taxesOf 58 = .ok (.iastore, 1) := by decide +kernel
theorem dX10_taxesOf_59 : decode cX10_taxesOf 59 = .ok (.aload_n 1, 1) := by decide +kernel
theorem dX10_taxesOf_60 : decode cX10_taxesOf 60 = .ok (.bipush 26, 2) := by decide +kernel
theorem dX10_taxesOf_62 : decode cX10_taxesOf 62 = .ok (.ldc_w 288, 3) := by decide +kernel
theorem dX10_taxesOf_65 : decode cX10_taxesOf 65 = .ok (.aload_n 1, 1) := by decide +kernel
theorem dX10_taxesOf_66 : decode cX10_taxesOf 66 = .ok (.bipush 26, 2) := by decide +kernel
theorem dX10_taxesOf_68 : decode cX10_taxesOf 68 = .ok (.iaload, 1) := by decide +kernel
theorem dX10_taxesOf_69 : decode cX10_taxesOf 69 = .ok (.iload 5, 2) := by decide +kernel
theorem dX10_taxesOf_71 : decode cX10_taxesOf 71 = .ok (.iadd, 1) := by decide +kernel
theorem dX10_taxesOf_72 : decode cX10_taxesOf 72 = .ok (.invokestatic 136, 3) := by decide +kernel
theorem dX10_taxesOf_75 : decode cX10_taxesOf 75 = .ok (.iastore, 1) := by decide +kernel
theorem dX10_taxesOf_76 : decode cX10_taxesOf 76 = .ok (.iinc 4 1, 3) := by decide +kernel
theorem dX10_taxesOf_79 : decode cX10_taxesOf 79 = .ok (.goto (-54), 3) := by decide +kernel
theorem dX10_taxesOf_82 : decode cX10_taxesOf 82 = .ok (.aload_n 1, 1) := by decide +kernel
theorem dX10_taxesOf_83 : decode cX10_taxesOf 83 = .ok (.bipush 26, 2) := by decide +kernel
theorem dX10_taxesOf_85 : decode cX10_taxesOf 85 = .ok (.iaload, 1) := by decide +kernel
theorem dX10_taxesOf_86 : decode cX10_taxesOf 86 = .ok (.ireturn, 1) := by decide +kernel
theorem dX10_burnsAt_0 : decode cX10_burnsAt 0 = .ok (.aload_n 0, 1) := by decide +kernel
theorem dX10_burnsAt_1 : decode cX10_burnsAt 1 = .ok (.iload_n 1, 1) := by decide +kernel
theorem dX10_burnsAt_2 : decode cX10_burnsAt 2 = .ok (.invokevirtual 254, 3) := by decide +kernel
theorem dX10_burnsAt_5 : decode cX10_burnsAt 5 = .ok (.ifCond .ne 5, 3) := by decide +kernel
theorem dX10_burnsAt_8 : decode cX10_burnsAt 8 = .ok (.iconst (-1), 1) := by decide +kernel
theorem dX10_burnsAt_9 : decode cX10_burnsAt 9 = .ok (.ireturn, 1) := by decide +kernel
theorem dX10_burnsAt_10 : decode cX10_burnsAt 10 = .ok (.aload_n 0, 1) := by decide +kernel
theorem dX10_burnsAt_11 : decode cX10_burnsAt 11 = .ok (.getfield 41, 3) := by decide +kernel
theorem dX10_burnsAt_14 : decode cX10_burnsAt 14 = .ok (.iconst 1, 1) := by decide +kernel
theorem dX10_burnsAt_15 : decode cX10_burnsAt 15 = .ok (.iload_n 1, 1) := by decide +kernel
theorem dX10_burnsAt_16 : decode cX10_burnsAt 16 = .ok (.invokestatic 248, 3) := by decide +kernel
theorem dX10_burnsAt_19 : decode cX10_burnsAt 19 = .ok (.iaload, 1) := by decide +kernel
theorem dX10_burnsAt_20 : decode cX10_burnsAt 20 = .ok (.istore_n 2, 1) := by decide +kernel
theorem dX10_burnsAt_21 : decode cX10_burnsAt 21 = .ok (.aload_n 0, 1) := by decide +kernel
theorem dX10_burnsAt_22 : decode cX10_burnsAt 22 = .ok (.getfield 41, 3) := by decide +kernel
theorem dX10_burnsAt_25 : decode cX10_burnsAt 25 = .ok (.iconst 1, 1) := by decide +kernel
theorem dX10_burnsAt_26 : decode cX10_burnsAt 26 = .ok (.iload_n 1, 1) := by decide +kernel
theorem dX10_burnsAt_27 : decode cX10_burnsAt 27 = .ok (.invokestatic 248, 3) := by decide +kernel
theorem dX10_burnsAt_30 : decode cX10_burnsAt 30 = .ok (.iconst 0, 1) := by decide +kernel
theorem dX10_burnsAt_31 : decode cX10_burnsAt 31 = .ok (.iastore, 1) := by decide +kernel
theorem dX10_burnsAt_32 : decode cX10_burnsAt 32 = .ok (.iload_n 2, 1) := by decide +kernel
theorem dX10_burnsAt_33 : decode cX10_burnsAt 33 = .ok (.ifCond .ne 8, 3) := by decide +kernel
theorem dX10_burnsAt_36 : decode cX10_burnsAt 36 = .ok (.bipush (-2), 2) := by decide +kernel
theorem dX10_burnsAt_38 : decode cX10_burnsAt 38 = .ok (.goto 4, 3) := by decide +kernel
theorem dX10_burnsAt_41 : decode cX10_burnsAt 41 = .ok (.iload_n 2, 1) := by decide +kernel
theorem dX10_burnsAt_42 : decode cX10_burnsAt 42 = .ok (.ireturn, 1) := by decide +kernel
theorem dX10_flowsBy_0 : decode cX10_flowsBy 0 = .ok (.iload_n 1, 1) := by decide +kernel
theorem dX10_flowsBy_1 : decode cX10_flowsBy 1 = .ok (.i2l, 1) := by decide +kernel
theorem dX10_flowsBy_2 : decode cX10_flowsBy 2 = .ok (.lconst 0, 1) := by decide +kernel
theorem dX10_flowsBy_3 : decode cX10_flowsBy 3 = .ok (.ldc2_w 286, 3) := by decide +kernel
theorem dX10_flowsBy_6 : decode cX10_flowsBy 6 = .ok (.invokestatic 123, 3) := by decide +kernel
theorem dX10_flowsBy_9 : decode cX10_flowsBy 9 = .ok (.ifCond .ne 5, 3) := by decide +kernel
theorem dX10_flowsBy_12 : decode cX10_flowsBy 12 = .ok (.iconst (-1), 1) := by decide +kernel
theorem dX10_flowsBy_13 : decode cX10_flowsBy 13 = .ok (.ireturn, 1) := by decide +kernel
theorem dX10_flowsBy_14 : decode cX10_flowsBy 14 = .ok (.aload_n 0, 1) := by decide +kernel
theorem dX10_flowsBy_15 : decode cX10_flowsBy 15 = .ok (.getfield 41, 3) := by decide +kernel
theorem dX10_flowsBy_18 : decode cX10_flowsBy 18 = .ok (.bipush 24, 2) := by decide +kernel
theorem dX10_flowsBy_20 : decode cX10_flowsBy 20 = .ok (.iaload, 1) := by decide +kernel
theorem dX10_flowsBy_21 : decode cX10_flowsBy 21 = .ok (.istore_n 2, 1) := by decide +kernel
theorem dX10_flowsBy_22 : decode cX10_flowsBy 22 = .ok (.aload_n 0, 1) := by decide +kernel
theorem dX10_flowsBy_23 : decode cX10_flowsBy 23 = .ok (.getfield 41, 3) := by decide +kernel
theorem dX10_flowsBy_26 : decode cX10_flowsBy 26 = .ok (.bipush 24, 2) := by decide +kernel
theorem dX10_flowsBy_28 : decode cX10_flowsBy 28 = .ok (.iload_n 1, 1) := by decide +kernel
theorem dX10_flowsBy_29 : decode cX10_flowsBy 29 = .ok (.iastore, 1) := by decide +kernel
theorem dX10_flowsBy_30 : decode cX10_flowsBy 30 = .ok (.iload_n 2, 1) := by decide +kernel
theorem dX10_flowsBy_31 : decode cX10_flowsBy 31 = .ok (.ireturn, 1) := by decide +kernel
theorem dX10_months_0 : decode cX10_months 0 = .ok (.aload_n 0, 1) := by decide +kernel
theorem dX10_months_1 : decode cX10_months 1 = .ok (.iconst 0, 1) := by decide +kernel
theorem dX10_months_2 : decode cX10_months 2 = .ok (.putfield 3, 3) := by decide +kernel
theorem dX10_months_5 : decode cX10_months 5 = .ok (.iload_n 1, 1) := by decide +kernel
theorem dX10_months_6 : decode cX10_months 6 = .ok (.i2l, 1) := by decide +kernel
theorem dX10_months_7 : decode cX10_months 7 = .ok (.lconst 0, 1) := by decide +kernel
theorem dX10_months_8 : decode cX10_months 8 = .ok (.ldc2_w 289, 3) := by decide +kernel
theorem dX10_months_11 : decode cX10_months 11 = .ok (.invokestatic 123, 3) := by decide +kernel
theorem dX10_months_14 : decode cX10_months 14 = .ok (.ifCond .ne 5, 3) := by decide +kernel
theorem dX10_months_17 : decode cX10_months 17 = .ok (.iconst (-1), 1) := by decide +kernel
theorem dX10_months_18 : decode cX10_months 18 = .ok (.ireturn, 1) := by decide +kernel
theorem dX10_months_19 : decode cX10_months 19 = .ok (.aload_n 0, 1) := by decide +kernel
theorem dX10_months_20 : decode cX10_months 20 = .ok (.invokevirtual 291, 3) := by decide +kernel
theorem dX10_months_23 : decode cX10_months 23 = .ok (.aload_n 0, 1) := by decide +kernel
theorem dX10_months_24 : decode cX10_months 24 = .ok (.iconst 0, 1) := by decide +kernel
theorem dX10_months_25 : decode cX10_months 25 = .ok (.putfield 271, 3) := by decide +kernel
theorem dX10_months_28 : decode cX10_months 28 = .ok (.aload_n 0, 1) := by decide +kernel
theorem dX10_months_29 : decode cX10_months 29 = .ok (.aload_n 0, 1) := by decide +kernel
theorem dX10_months_30 : decode cX10_months 30 = .ok (.getfield 41, 3) := by decide +kernel
theorem dX10_months_33 : decode cX10_months 33 = .ok (.iload_n 1, 1) := by decide +kernel
theorem dX10_months_34 : decode cX10_months 34 = .ok (.invokevirtual 294, 3) := by decide +kernel
theorem dX10_months_37 : decode cX10_months 37 = .ok (.aload_n 0, 1) := by decide +kernel
theorem dX10_months_38 : decode cX10_months 38 = .ok (.iconst 0, 1) := by decide +kernel
theorem dX10_months_39 : decode cX10_months 39 = .ok (.putfield 15, 3) := by decide +kernel
theorem dX10_months_42 : decode cX10_months 42 = .ok (.aload_n 0, 1) := by decide +kernel
theorem dX10_months_43 : decode cX10_months 43 = .ok (.aload_n 0, 1) := by decide +kernel
theorem dX10_months_44 : decode cX10_months 44 = .ok (.getfield 271, 3) := by decide +kernel
theorem dX10_months_47 : decode cX10_months 47 = .ok (.i2l, 1) := by decide +kernel
theorem dX10_months_48 : decode cX10_months 48 = .ok (.invokevirtual 18, 3) := by decide +kernel
theorem dX10_months_51 : decode cX10_months 51 = .ok (.aload_n 0, 1) := by decide +kernel
theorem dX10_months_52 : decode cX10_months 52 = .ok (.aload_n 0, 1) := by decide +kernel
theorem dX10_months_53 : decode cX10_months 53 = .ok (.getfield 120, 3) := by decide +kernel
theorem dX10_months_56 : decode cX10_months 56 = .ok (.ifCond .ne 7, 3) := by decide +kernel
theorem dX10_months_59 : decode cX10_months 59 = .ok (.lconst 0, 1) := by decide +kernel
theorem dX10_months_60 : decode cX10_months 60 = .ok (.goto 18, 3) := by decide +kernel
theorem dX10_months_63 : decode cX10_months 63 = .ok (.aload_n 0, 1) := by decide +kernel
theorem dX10_months_64 : decode cX10_months 64 = .ok (.aload_n 0, 1) := by decide +kernel
theorem dX10_months_65 : decode cX10_months 65 = .ok (.getfield 41, 3) := by decide +kernel
theorem dX10_months_68 : decode cX10_months 68 = .ok (.aload_n 0, 1) := by decide +kernel
theorem dX10_months_69 : decode cX10_months 69 = .ok (.getfield 120, 3) := by decide +kernel
theorem dX10_months_72 : decode cX10_months 72 = .ok (.iconst 1, 1) := by decide +kernel
theorem dX10_months_73 : decode cX10_months 73 = .ok (.isub, 1) := by decide +kernel
theorem dX10_months_74 : decode cX10_months 74 = .ok (.invokevirtual 262, 3) := by decide +kernel
theorem dX10_months_77 : decode cX10_months 77 = .ok (.i2l, 1) := by decide +kernel
theorem dX10_months_78 : decode cX10_months 78 = .ok (.invokevirtual 18, 3) := by decide +kernel
theorem dX10_months_81 : decode cX10_months 81 = .ok (.aload_n 0, 1) := by decide +kernel
theorem dX10_months_82 : decode cX10_months 82 = .ok (.aload_n 0, 1) := by decide +kernel
theorem dX10_months_83 : decode cX10_months 83 = .ok (.getfield 120, 3) := by decide +kernel
theorem dX10_months_86 : decode cX10_months 86 = .ok (.ifCond .ne 7, 3) := by decide +kernel
theorem dX10_months_89 : decode cX10_months 89 = .ok (.iconst 0, 1) := by decide +kernel
theorem dX10_months_90 : decode cX10_months 90 = .ok (.goto 12, 3) := by decide +kernel
theorem dX10_months_93 : decode cX10_months 93 = .ok (.aload_n 0, 1) := by decide +kernel
theorem dX10_months_94 : decode cX10_months 94 = .ok (.aload_n 0, 1) := by decide +kernel
theorem dX10_months_95 : decode cX10_months 95 = .ok (.getfield 41, 3) := by decide +kernel
theorem dX10_months_98 : decode cX10_months 98 = .ok (.iconst 0, 1) := by decide +kernel
theorem dX10_months_99 : decode cX10_months 99 = .ok (.invokevirtual 262, 3) := by decide +kernel
theorem dX10_months_102 : decode cX10_months 102 = .ok (.invokevirtual 268, 3) := by decide +kernel
theorem dX10_months_105 : decode cX10_months 105 = .ok (.ireturn, 1) := by decide +kernel
theorem dX10_brings_0 : decode cX10_brings 0 = .ok (.aload_n 0, 1) := by decide +kernel
theorem dX10_brings_1 : decode cX10_brings 1 = .ok (.iconst 0, 1) := by decide +kernel
theorem dX10_brings_2 : decode cX10_brings 2 = .ok (.putfield 3, 3) := by decide +kernel
theorem dX10_brings_5 : decode cX10_brings 5 = .ok (.aload_n 0, 1) := by decide +kernel
theorem dX10_brings_6 : decode cX10_brings 6 = .ok (.iload_n 1, 1) := by decide +kernel
theorem dX10_brings_7 : decode cX10_brings 7 = .ok (.invokevirtual 254, 3) := by decide +kernel
theorem dX10_brings_10 : decode cX10_brings 10 = .ok (.ifCond .eq 17, 3) := by decide +kernel
theorem dX10_brings_13 : decode cX10_brings 13 = .ok (.iload_n 2, 1) := by decide +kernel
theorem dX10_brings_14 : decode cX10_brings 14 = .ok (.invokestatic 280, 3) := by decide +kernel
theorem dX10_brings_17 : decode cX10_brings 17 = .ok (.ifCond .eq 10, 3) := by decide +kernel
theorem dX10_brings_20 : decode cX10_brings 20 = .ok (.iload_n 3, 1) := by decide +kernel
theorem dX10_brings_21 : decode cX10_brings 21 = .ok (.invokestatic 283, 3) := by decide +kernel
theorem dX10_brings_24 : decode cX10_brings 24 = .ok (.ifCond .ne 5, 3) := by decide +kernel
theorem dX10_brings_27 : decode cX10_brings 27 = .ok (.iconst (-1), 1) := by decide +kernel
theorem dX10_brings_28 : decode cX10_brings 28 = .ok (.ireturn, 1) := by decide +kernel
theorem dX10_brings_29 : decode cX10_brings 29 = .ok (.aload_n 0, 1) := by decide +kernel
theorem dX10_brings_30 : decode cX10_brings 30 = .ok (.invokevirtual 291, 3) := by decide +kernel
theorem dX10_brings_33 : decode cX10_brings 33 = .ok (.iload_n 2, 1) := by decide +kernel
theorem dX10_brings_34 : decode cX10_brings 34 = .ok (.iload_n 1, 1) := by decide +kernel
theorem dX10_brings_35 : decode cX10_brings 35 = .ok (.invokestatic 248, 3) := by decide +kernel
theorem dX10_brings_38 : decode cX10_brings 38 = .ok (.istore 4, 2) := by decide +kernel
theorem dX10_brings_40 : decode cX10_brings 40 = .ok (.aload_n 0, 1) := by decide +kernel
theorem dX10_brings_41 : decode cX10_brings 41 = .ok (.getfield 41, 3) := by decide +kernel
theorem dX10_brings_44 : decode cX10_brings 44 = .ok (.iload 4, 2) := by decide +kernel
theorem dX10_brings_46 : decode cX10_brings 46 = .ok (.ldc 241, 2) := by decide +kernel
theorem dX10_brings_48 : decode cX10_brings 48 = .ok (.aload_n 0, 1) := by decide +kernel
theorem dX10_brings_49 : decode cX10_brings 49 = .ok (.getfield 41, 3) := by decide +kernel
theorem dX10_brings_52 : decode cX10_brings 52 = .ok (.iload 4, 2) := by decide +kernel
theorem dX10_brings_54 : decode cX10_brings 54 = .ok (.iaload, 1) := by decide +kernel
theorem dX10_brings_55 : decode cX10_brings 55 = .ok (.iload_n 3, 1) := by decide +kernel
theorem dX10_brings_56 : decode cX10_brings 56 = .ok (.iadd, 1) := by decide +kernel
theorem dX10_brings_57 : decode cX10_brings 57 = .ok (.invokestatic 136, 3) := by decide +kernel
theorem dX10_brings_60 : decode cX10_brings 60 = .ok (.iastore, 1) := by decide +kernel
theorem dX10_brings_61 : decode cX10_brings 61 = .ok (.aload_n 0, 1) := by decide +kernel
theorem dX10_brings_62 : decode cX10_brings 62 = .ok (.aload_n 0, 1) := by decide +kernel
theorem dX10_brings_63 : decode cX10_brings 63 = .ok (.getfield 41, 3) := by decide +kernel
theorem dX10_brings_66 : decode cX10_brings 66 = .ok (.iload 4, 2) := by decide +kernel
theorem dX10_brings_68 : decode cX10_brings 68 = .ok (.iaload, 1) := by decide +kernel
theorem dX10_brings_69 : decode cX10_brings 69 = .ok (.invokevirtual 268, 3) := by decide +kernel
theorem dX10_brings_72 : decode cX10_brings 72 = .ok (.ireturn, 1) := by decide +kernel
theorem dX10_lays_0 : decode cX10_lays 0 = .ok (.aload_n 0, 1) := by decide +kernel
theorem dX10_lays_1 : decode cX10_lays 1 = .ok (.iconst 0, 1) := by decide +kernel
theorem dX10_lays_2 : decode cX10_lays 2 = .ok (.putfield 3, 3) := by decide +kernel
theorem dX10_lays_5 : decode cX10_lays 5 = .ok (.aload_n 0, 1) := by decide +kernel
theorem dX10_lays_6 : decode cX10_lays 6 = .ok (.invokevirtual 291, 3) := by decide +kernel
theorem dX10_lays_9 : decode cX10_lays 9 = .ok (.aload_n 0, 1) := by decide +kernel
theorem dX10_lays_10 : decode cX10_lays 10 = .ok (.aload_n 0, 1) := by decide +kernel
theorem dX10_lays_11 : decode cX10_lays 11 = .ok (.iload_n 1, 1) := by decide +kernel
theorem dX10_lays_12 : decode cX10_lays 12 = .ok (.iload_n 2, 1) := by decide +kernel
theorem dX10_lays_13 : decode cX10_lays 13 = .ok (.iload_n 3, 1) := by decide +kernel
theorem dX10_lays_14 : decode cX10_lays 14 = .ok (.invokevirtual 297, 3) := by decide +kernel
theorem dX10_lays_17 : decode cX10_lays 17 = .ok (.invokevirtual 300, 3) := by decide +kernel
theorem dX10_lays_20 : decode cX10_lays 20 = .ok (.ireturn, 1) := by decide +kernel
theorem dX10_spends_0 : decode cX10_spends 0 = .ok (.aload_n 0, 1) := by decide +kernel
theorem dX10_spends_1 : decode cX10_spends 1 = .ok (.iconst 0, 1) := by decide +kernel
theorem dX10_spends_2 : decode cX10_spends 2 = .ok (.putfield 3, 3) := by decide +kernel
theorem dX10_spends_5 : decode cX10_spends 5 = .ok (.aload_n 0, 1) := by decide +kernel
theorem dX10_spends_6 : decode cX10_spends 6 = .ok (.invokevirtual 291, 3) := by decide +kernel
theorem dX10_spends_9 : decode cX10_spends 9 = .ok (.aload_n 0, 1) := by decide +kernel
theorem dX10_spends_10 : decode cX10_spends 10 = .ok (.aload_n 0, 1) := by decide +kernel
theorem dX10_spends_11 : decode cX10_spends 11 = .ok (.iload_n 1, 1) := by decide +kernel
theorem dX10_spends_12 : decode cX10_spends 12 = .ok (.iload_n 2, 1) := by decide +kernel
theorem dX10_spends_13 : decode cX10_spends 13 = .ok (.iload_n 3, 1) := by decide +kernel
theorem dX10_spends_14 : decode cX10_spends 14 = .ok (.invokevirtual 303, 3) := by decide +kernel
theorem dX10_spends_17 : decode cX10_spends 17 = .ok (.invokevirtual 300, 3) := by decide +kernel
theorem dX10_spends_20 : decode cX10_spends 20 = .ok (.ireturn, 1) := by decide +kernel
theorem dX10_taxes_0 : decode cX10_taxes 0 = .ok (.aload_n 0, 1) := by decide +kernel
theorem dX10_taxes_1 : decode cX10_taxes 1 = .ok (.iconst 0, 1) := by decide +kernel
theorem dX10_taxes_2 : decode cX10_taxes 2 = .ok (.putfield 3, 3) := by decide +kernel
theorem dX10_taxes_5 : decode cX10_taxes 5 = .ok (.aload_n 0, 1) := by decide +kernel
theorem dX10_taxes_6 : decode cX10_taxes 6 = .ok (.invokevirtual 291, 3) := by decide +kernel
theorem dX10_taxes_9 : decode cX10_taxes 9 = .ok (.aload_n 0, 1) := by decide +kernel
theorem dX10_taxes_10 : decode cX10_taxes 10 = .ok (.aload_n 0, 1) := by decide +kernel
theorem dX10_taxes_11 : decode cX10_taxes 11 = .ok (.aload_n 0, 1) := by decide +kernel
theorem dX10_taxes_12 : decode cX10_taxes 12 = .ok (.getfield 41, 3) := by decide +kernel
theorem dX10_taxes_15 : decode cX10_taxes 15 = .ok (.iload_n 1, 1) := by decide +kernel
theorem dX10_taxes_16 : decode cX10_taxes 16 = .ok (.iload_n 2, 1) := by decide +kernel
theorem dX10_taxes_17 : decode cX10_taxes 17 = .ok (.invokevirtual 306, 3) := by decide +kernel
theorem dX10_taxes_20 : decode cX10_taxes 20 = .ok (.invokevirtual 300, 3) := by decide +kernel
theorem dX10_taxes_23 : decode cX10_taxes 23 = .ok (.ireturn, 1) := by decide +kernel
theorem dX10_burns_0 : decode cX10_burns 0 = .ok (.aload_n 0, 1) := by decide +kernel
theorem dX10_burns_1 : decode cX10_burns 1 = .ok (.iconst 0, 1) := by decide +kernel
theorem dX10_burns_2 : decode cX10_burns 2 = .ok (.putfield 3, 3) := by decide +kernel
theorem dX10_burns_5 : decode cX10_burns 5 = .ok (.aload_n 0, 1) := by decide +kernel
theorem dX10_burns_6 : decode cX10_burns 6 = .ok (.invokevirtual 291, 3) := by decide +kernel
theorem dX10_burns_9 : decode cX10_burns 9 = .ok (.aload_n 0, 1) := by decide +kernel
theorem dX10_burns_10 : decode cX10_burns 10 = .ok (.aload_n 0, 1) := by decide +kernel
theorem dX10_burns_11 : decode cX10_burns 11 = .ok (.iload_n 1, 1) := by decide +kernel
theorem dX10_burns_12 : decode cX10_burns 12 = .ok (.invokevirtual 310, 3) := by decide +kernel
theorem dX10_burns_15 : decode cX10_burns 15 = .ok (.invokevirtual 300, 3) := by decide +kernel
theorem dX10_burns_18 : decode cX10_burns 18 = .ok (.ireturn, 1) := by decide +kernel
theorem dX10_port_0 : decode cX10_port 0 = .ok (.aload_n 0, 1) := by decide +kernel
theorem dX10_port_1 : decode cX10_port 1 = .ok (.iconst 0, 1) := by decide +kernel
theorem dX10_port_2 : decode cX10_port 2 = .ok (.putfield 3, 3) := by decide +kernel
theorem dX10_port_5 : decode cX10_port 5 = .ok (.aload_n 0, 1) := by decide +kernel
theorem dX10_port_6 : decode cX10_port 6 = .ok (.invokevirtual 291, 3) := by decide +kernel
theorem dX10_port_9 : decode cX10_port 9 = .ok (.aload_n 0, 1) := by decide +kernel
theorem dX10_port_10 : decode cX10_port 10 = .ok (.getfield 41, 3) := by decide +kernel
theorem dX10_port_13 : decode cX10_port 13 = .ok (.bipush 27, 2) := by decide +kernel
theorem dX10_port_15 : decode cX10_port 15 = .ok (.iconst 1, 1) := by decide +kernel
theorem dX10_port_16 : decode cX10_port 16 = .ok (.aload_n 0, 1) := by decide +kernel
theorem dX10_port_17 : decode cX10_port 17 = .ok (.getfield 41, 3) := by decide +kernel
theorem dX10_port_20 : decode cX10_port 20 = .ok (.bipush 27, 2) := by decide +kernel
theorem dX10_port_22 : decode cX10_port 22 = .ok (.iaload, 1) := by decide +kernel
theorem dX10_port_23 : decode cX10_port 23 = .ok (.isub, 1) := by decide +kernel
theorem dX10_port_24 : decode cX10_port 24 = .ok (.iastore, 1) := by decide +kernel
theorem dX10_port_25 : decode cX10_port 25 = .ok (.aload_n 0, 1) := by decide +kernel
theorem dX10_port_26 : decode cX10_port 26 = .ok (.aload_n 0, 1) := by decide +kernel
theorem dX10_port_27 : decode cX10_port 27 = .ok (.getfield 41, 3) := by decide +kernel
theorem dX10_port_30 : decode cX10_port 30 = .ok (.bipush 27, 2) := by decide +kernel
theorem dX10_port_32 : decode cX10_port 32 = .ok (.iaload, 1) := by decide +kernel
theorem dX10_port_33 : decode cX10_port 33 = .ok (.invokevirtual 268, 3) := by decide +kernel
theorem dX10_port_36 : decode cX10_port 36 = .ok (.ireturn, 1) := by decide +kernel
theorem dX10_flow_0 : decode cX10_flow 0 = .ok (.aload_n 0, 1) := by decide +kernel
theorem dX10_flow_1 : decode cX10_flow 1 = .ok (.iconst 0, 1) := by decide +kernel
theorem dX10_flow_2 : decode cX10_flow 2 = .ok (.putfield 3, 3) := by decide +kernel
theorem dX10_flow_5 : decode cX10_flow 5 = .ok (.aload_n 0, 1) := by decide +kernel
theorem dX10_flow_6 : decode cX10_flow 6 = .ok (.invokevirtual 291, 3) := by decide +kernel
theorem dX10_flow_9 : decode cX10_flow 9 = .ok (.aload_n 0, 1) := by decide +kernel
theorem dX10_flow_10 : decode cX10_flow 10 = .ok (.aload_n 0, 1) := by decide +kernel
theorem dX10_flow_11 : decode cX10_flow 11 = .ok (.iload_n 1, 1) := by decide +kernel
theorem dX10_flow_12 : decode cX10_flow 12 = .ok (.invokevirtual 313, 3) := by decide +kernel
theorem dX10_flow_15 : decode cX10_flow 15 = .ok (.invokevirtual 300, 3) := by decide +kernel
theorem dX10_flow_18 : decode cX10_flow 18 = .ok (.ireturn, 1) := by decide +kernel
theorem dX10_readsAct_0 : decode cX10_readsAct 0 = .ok (.aload_n 0, 1) := by decide +kernel
theorem dX10_readsAct_1 : decode cX10_readsAct 1 = .ok (.getfield 316, 3) := by decide +kernel
theorem dX10_readsAct_4 : decode cX10_readsAct 4 = .ok (.istore_n 1, 1) := by decide +kernel
theorem dX10_readsAct_5 : decode cX10_readsAct 5 = .ok (.aload_n 0, 1) := by decide +kernel
theorem dX10_readsAct_6 : decode cX10_readsAct 6 = .ok (.getfield 74, 3) := by decide +kernel
theorem dX10_readsAct_9 : decode cX10_readsAct 9 = .ok (.iload_n 1, 1) := by decide +kernel
theorem dX10_readsAct_10 : decode cX10_readsAct 10 = .ok (.aload_n 0, 1) := by decide +kernel
theorem dX10_readsAct_11 : decode cX10_readsAct 11 = .ok (.ldc_w 319, 3) := by decide +kernel
theorem dX10_readsAct_14 : decode cX10_readsAct 14 = .ok (.invokevirtual 199, 3) := by decide +kernel
theorem dX10_readsAct_17 : decode cX10_readsAct 17 = .ok (.iastore, 1) := by decide +kernel
theorem dX10_readsAct_18 : decode cX10_readsAct 18 = .ok (.aload_n 0, 1) := by decide +kernel
theorem dX10_readsAct_19 : decode cX10_readsAct 19 = .ok (.dup, 1) := by decide +kernel
theorem dX10_readsAct_20 : decode cX10_readsAct 20 = .ok (.getfield 316, 3) := by decide +kernel
theorem dX10_readsAct_23 : decode cX10_readsAct 23 = .ok (.iconst 1, 1) := by decide +kernel
theorem dX10_readsAct_24 : decode cX10_readsAct 24 = .ok (.iadd, 1) := by decide +kernel
theorem dX10_readsAct_25 : decode cX10_readsAct 25 = .ok (.putfield 316, 3) := by decide +kernel
theorem dX10_readsAct_28 : decode cX10_readsAct 28 = .ok (.aload_n 0, 1) := by decide +kernel
theorem dX10_readsAct_29 : decode cX10_readsAct 29 = .ok (.getfield 74, 3) := by decide +kernel
theorem dX10_readsAct_32 : decode cX10_readsAct 32 = .ok (.iload_n 1, 1) := by decide +kernel
theorem dX10_readsAct_33 : decode cX10_readsAct 33 = .ok (.iaload, 1) := by decide +kernel
theorem dX10_readsAct_34 : decode cX10_readsAct 34 = .ok (.ifCond .lt 13, 3) := by decide +kernel
theorem dX10_readsAct_37 : decode cX10_readsAct 37 = .ok (.aload_n 0, 1) := by decide +kernel
theorem dX10_readsAct_38 : decode cX10_readsAct 38 = .ok (.getfield 74, 3) := by decide +kernel
theorem dX10_readsAct_41 : decode cX10_readsAct 41 = .ok (.iload_n 1, 1) := by decide +kernel
theorem dX10_readsAct_42 : decode cX10_readsAct 42 = .ok (.iaload, 1) := by decide +kernel
theorem dX10_readsAct_43 : decode cX10_readsAct 43 = .ok (.iconst 3, 1) := by decide +kernel
theorem dX10_readsAct_44 : decode cX10_readsAct 44 = .ok (.if_icmp .ne 18, 3) := by decide +kernel
theorem dX10_readsAct_47 : decode cX10_readsAct 47 = .ok (.aload_n 0, 1) := by decide +kernel
theorem dX10_readsAct_48 : decode cX10_readsAct 48 = .ok (.getfield 74, 3) := by decide +kernel
theorem dX10_readsAct_51 : decode cX10_readsAct 51 = .ok (.iload_n 1, 1) := by decide +kernel
theorem dX10_readsAct_52 : decode cX10_readsAct 52 = .ok (.iaload, 1) := by decide +kernel
theorem dX10_readsAct_53 : decode cX10_readsAct 53 = .ok (.ifCond .lt 7, 3) := by decide +kernel
theorem dX10_readsAct_56 : decode cX10_readsAct 56 = .ok (.iconst 1, 1) := by decide +kernel
theorem dX10_readsAct_57 : decode cX10_readsAct 57 = .ok (.goto 4, 3) := by decide +kernel
theorem dX10_readsAct_60 : decode cX10_readsAct 60 = .ok (.iconst 0, 1) := by decide +kernel
theorem dX10_readsAct_61 : decode cX10_readsAct 61 = .ok (.ireturn, 1) := by decide +kernel
theorem dX10_readsAct_62 : decode cX10_readsAct 62 = .ok (.aload_n 0, 1) := by decide +kernel
theorem dX10_readsAct_63 : decode cX10_readsAct 63 = .ok (.getfield 77, 3) := by decide +kernel
theorem dX10_readsAct_66 : decode cX10_readsAct 66 = .ok (.iload_n 1, 1) := by decide +kernel
theorem dX10_readsAct_67 : decode cX10_readsAct 67 = .ok (.aload_n 0, 1) := by decide +kernel
theorem dX10_readsAct_68 : decode cX10_readsAct 68 = .ok (.iconst 1, 1) := by decide +kernel
theorem dX10_readsAct_69 : decode cX10_readsAct 69 = .ok (.invokevirtual 167, 3) := by decide +kernel
theorem dX10_readsAct_72 : decode cX10_readsAct 72 = .ok (.iastore, 1) := by decide +kernel
theorem dX10_readsAct_73 : decode cX10_readsAct 73 = .ok (.aload_n 0, 1) := by decide +kernel
theorem dX10_readsAct_74 : decode cX10_readsAct 74 = .ok (.getfield 77, 3) := by decide +kernel
theorem dX10_readsAct_77 : decode cX10_readsAct 77 = .ok (.iload_n 1, 1) := by decide +kernel
theorem dX10_readsAct_78 : decode cX10_readsAct 78 = .ok (.iaload, 1) := by decide +kernel
theorem dX10_readsAct_79 : decode cX10_readsAct 79 = .ok (.ifCond .lt 32, 3) := by decide +kernel
theorem dX10_readsAct_82 : decode cX10_readsAct 82 = .ok (.aload_n 0, 1) := by decide +kernel
theorem dX10_readsAct_83 : decode cX10_readsAct 83 = .ok (.getfield 74, 3) := by decide +kernel
theorem dX10_readsAct_86 : decode cX10_readsAct 86 = .ok (.iload_n 1, 1) := by decide +kernel
theorem dX10_readsAct_87 : decode cX10_readsAct 87 = .ok (.iaload, 1) := by decide +kernel
theorem dX10_readsAct_88 : decode cX10_readsAct 88 = .ok (.ifCond .eq 23, 3) := by decide +kernel
theorem dX10_readsAct_91 : decode cX10_readsAct 91 = .ok (.aload_n 0, 1) := by decide +kernel
theorem dX10_readsAct_92 : decode cX10_readsAct 92 = .ok (.getfield 74, 3) := by decide +kernel
theorem dX10_readsAct_95 : decode cX10_readsAct 95 = .ok (.iload_n 1, 1) := by decide +kernel
theorem dX10_readsAct_96 : decode cX10_readsAct 96 = .ok (.iaload, 1) := by decide +kernel
theorem dX10_readsAct_97 : decode cX10_readsAct 97 = .ok (.iconst 2, 1) := by decide +kernel
theorem dX10_readsAct_98 : decode cX10_readsAct 98 = .ok (.if_icmp .eq 13, 3) := by decide +kernel
theorem dX10_readsAct_101 : decode cX10_readsAct 101 = .ok (.aload_n 0, 1) := by decide +kernel
theorem dX10_readsAct_102 : decode cX10_readsAct 102 = .ok (.getfield 74, 3) := by decide +kernel
theorem dX10_readsAct_105 : decode cX10_readsAct 105 = .ok (.iload_n 1, 1) := by decide +kernel
theorem dX10_readsAct_106 : decode cX10_readsAct 106 = .ok (.iaload, 1) := by decide +kernel
theorem dX10_readsAct_107 : decode cX10_readsAct 107 = .ok (.iconst 4, 1) := by decide +kernel
theorem dX10_readsAct_108 : decode cX10_readsAct 108 = .ok (.if_icmp .ne 18, 3) := by decide +kernel
theorem dX10_readsAct_111 : decode cX10_readsAct 111 = .ok (.aload_n 0, 1) := by decide +kernel
theorem dX10_readsAct_112 : decode cX10_readsAct 112 = .ok (.getfield 77, 3) := by decide +kernel
theorem dX10_readsAct_115 : decode cX10_readsAct 115 = .ok (.iload_n 1, 1) := by decide +kernel
theorem dX10_readsAct_116 : decode cX10_readsAct 116 = .ok (.iaload, 1) := by decide +kernel
theorem dX10_readsAct_117 : decode cX10_readsAct 117 = .ok (.ifCond .lt 7, 3) := by decide +kernel
theorem dX10_readsAct_120 : decode cX10_readsAct 120 = .ok (.iconst 1, 1) := by decide +kernel
theorem dX10_readsAct_121 : decode cX10_readsAct 121 = .ok (.goto 4, 3) := by decide +kernel
theorem dX10_readsAct_124 : decode cX10_readsAct 124 = .ok (.iconst 0, 1) := by decide +kernel
theorem dX10_readsAct_125 : decode cX10_readsAct 125 = .ok (.ireturn, 1) := by decide +kernel
theorem dX10_readsAct_126 : decode cX10_readsAct 126 = .ok (.aload_n 0, 1) := by decide +kernel
theorem dX10_readsAct_127 : decode cX10_readsAct 127 = .ok (.getfield 74, 3) := by decide +kernel
theorem dX10_readsAct_130 : decode cX10_readsAct 130 = .ok (.iload_n 1, 1) := by decide +kernel
theorem dX10_readsAct_131 : decode cX10_readsAct 131 = .ok (.iaload, 1) := by decide +kernel
theorem dX10_readsAct_132 : decode cX10_readsAct 132 = .ok (.iconst 1, 1) := by decide +kernel
theorem dX10_readsAct_133 : decode cX10_readsAct 133 = .ok (.if_icmp .ne 31, 3) := by decide +kernel
theorem dX10_readsAct_136 : decode cX10_readsAct 136 = .ok (.aload_n 0, 1) := by decide +kernel
theorem dX10_readsAct_137 : decode cX10_readsAct 137 = .ok (.getfield 80, 3) := by decide +kernel
theorem dX10_readsAct_140 : decode cX10_readsAct 140 = .ok (.iload_n 1, 1) := by decide +kernel
theorem dX10_readsAct_141 : decode cX10_readsAct 141 = .ok (.aload_n 0, 1) := by decide +kernel
theorem dX10_readsAct_142 : decode cX10_readsAct 142 = .ok (.iconst 1, 1) := by decide +kernel
theorem dX10_readsAct_143 : decode cX10_readsAct 143 = .ok (.bipush 9, 2) := by decide +kernel
theorem dX10_readsAct_145 : decode cX10_readsAct 145 = .ok (.invokevirtual 321, 3) := by decide +kernel
theorem dX10_readsAct_148 : decode cX10_readsAct 148 = .ok (.iastore, 1) := by decide +kernel
theorem dX10_readsAct_149 : decode cX10_readsAct 149 = .ok (.aload_n 0, 1) := by decide +kernel
theorem dX10_readsAct_150 : decode cX10_readsAct 150 = .ok (.getfield 80, 3) := by decide +kernel
theorem dX10_readsAct_153 : decode cX10_readsAct 153 = .ok (.iload_n 1, 1) := by decide +kernel
theorem dX10_readsAct_154 : decode cX10_readsAct 154 = .ok (.iaload, 1) := by decide +kernel
theorem dX10_readsAct_155 : decode cX10_readsAct 155 = .ok (.ifCond .lt 7, 3) := by decide +kernel
theorem dX10_readsAct_158 : decode cX10_readsAct 158 = .ok (.iconst 1, 1) := by decide +kernel
theorem dX10_readsAct_159 : decode cX10_readsAct 159 = .ok (.goto 4, 3) := by decide +kernel
theorem dX10_readsAct_162 : decode cX10_readsAct 162 = .ok (.iconst 0, 1) := by decide +kernel
theorem dX10_readsAct_163 : decode cX10_readsAct 163 = .ok (.ireturn, 1) := by decide +kernel
theorem dX10_readsAct_164 : decode cX10_readsAct 164 = .ok (.aload_n 0, 1) := by decide +kernel
theorem dX10_readsAct_165 : decode cX10_readsAct 165 = .ok (.getfield 80, 3) := by decide +kernel
theorem dX10_readsAct_168 : decode cX10_readsAct 168 = .ok (.iload_n 1, 1) := by decide +kernel
theorem dX10_readsAct_169 : decode cX10_readsAct 169 = .ok (.aload_n 0, 1) := by decide +kernel
theorem dX10_readsAct_170 : decode cX10_readsAct 170 = .ok (.ldc 197, 2) := by decide +kernel
theorem dX10_readsAct_172 : decode cX10_readsAct 172 = .ok (.invokevirtual 199, 3) := by decide +kernel
theorem dX10_readsAct_175 : decode cX10_readsAct 175 = .ok (.iastore, 1) := by decide +kernel
theorem dX10_readsAct_176 : decode cX10_readsAct 176 = .ok (.aload_n 0, 1) := by decide +kernel
theorem dX10_readsAct_177 : decode cX10_readsAct 177 = .ok (.getfield 83, 3) := by decide +kernel
theorem dX10_readsAct_180 : decode cX10_readsAct 180 = .ok (.iload_n 1, 1) := by decide +kernel
theorem dX10_readsAct_181 : decode cX10_readsAct 181 = .ok (.aload_n 0, 1) := by decide +kernel
theorem dX10_readsAct_182 : decode cX10_readsAct 182 = .ok (.getfield 80, 3) := by decide +kernel
theorem dX10_readsAct_185 : decode cX10_readsAct 185 = .ok (.iload_n 1, 1) := by decide +kernel
theorem dX10_readsAct_186 : decode cX10_readsAct 186 = .ok (.iaload, 1) := by decide +kernel
theorem dX10_readsAct_187 : decode cX10_readsAct 187 = .ok (.ifCond .ge 7, 3) := by decide +kernel
theorem dX10_readsAct_190 : decode cX10_readsAct 190 = .ok (.iconst (-1), 1) := by decide +kernel
theorem dX10_readsAct_191 : decode cX10_readsAct 191 = .ok (.goto 10, 3) := by decide +kernel
theorem dX10_readsAct_194 : decode cX10_readsAct 194 = .ok (.aload_n 0, 1) := by decide +kernel
theorem dX10_readsAct_195 : decode cX10_readsAct 195 = .ok (.iconst 1, 1) := by decide +kernel
theorem dX10_readsAct_196 : decode cX10_readsAct 196 = .ok (.bipush 9, 2) := by decide +kernel
theorem dX10_readsAct_198 : decode cX10_readsAct 198 = .ok (.invokevirtual 321, 3) := by decide +kernel
theorem dX10_readsAct_201 : decode cX10_readsAct 201 = .ok (.iastore, 1) := by decide +kernel
theorem dX10_readsAct_202 : decode cX10_readsAct 202 = .ok (.aload_n 0, 1) := by decide +kernel
theorem dX10_readsAct_203 : decode cX10_readsAct 203 = .ok (.getfield 83, 3) := by decide +kernel
theorem dX10_readsAct_206 : decode cX10_readsAct 206 = .ok (.iload_n 1, 1) := by decide +kernel
theorem dX10_readsAct_207 : decode cX10_readsAct 207 = .ok (.iaload, 1) := by decide +kernel
theorem dX10_readsAct_208 : decode cX10_readsAct 208 = .ok (.ifCond .lt 7, 3) := by decide +kernel
theorem dX10_readsAct_211 : decode cX10_readsAct 211 = .ok (.iconst 1, 1) := by decide +kernel
theorem dX10_readsAct_212 : decode cX10_readsAct 212 = .ok (.goto 4, 3) := by decide +kernel
theorem dX10_readsAct_215 : decode cX10_readsAct 215 = .ok (.iconst 0, 1) := by decide +kernel
theorem dX10_readsAct_216 : decode cX10_readsAct 216 = .ok (.ireturn, 1) := by decide +kernel
theorem dX10_does_0 : decode cX10_does 0 = .ok (.aload_n 0, 1) := by decide +kernel
theorem dX10_does_1 : decode cX10_does 1 = .ok (.getfield 77, 3) := by decide +kernel
theorem dX10_does_4 : decode cX10_does 4 = .ok (.iload_n 1, 1) := by decide +kernel
theorem dX10_does_5 : decode cX10_does 5 = .ok (.iaload, 1) := by decide +kernel
theorem dX10_does_6 : decode cX10_does 6 = .ok (.istore_n 2, 1) := by decide +kernel
theorem dX10_does_7 : decode cX10_does 7 = .ok (.aload_n 0, 1) := by decide +kernel
theorem dX10_does_8 : decode cX10_does 8 = .ok (.getfield 74, 3) := by decide +kernel
theorem dX10_does_11 : decode cX10_does 11 = .ok (.iload_n 1, 1) := by decide +kernel
theorem dX10_does_12 : decode cX10_does 12 = .ok (.iaload, 1) := by decide +kernel
theorem dX10_does_13 : decode cX10_does 13 = .ok (.tableswitch 149 0 5 #[39, 50, 74, 88, 106, 120], 39) := by decide +kernel
theorem dX10_does_52 : decode cX10_does 52 = .ok (.aload_n 0, 1) := by decide +kernel
theorem dX10_does_53 : decode cX10_does 53 = .ok (.aload_n 0, 1) := by decide +kernel
theorem dX10_does_54 : decode cX10_does 54 = .ok (.getfield 41, 3) := by decide +kernel
theorem dX10_does_57 : decode cX10_does 57 = .ok (.iload_n 2, 1) := by decide +kernel
theorem dX10_does_58 : decode cX10_does 58 = .ok (.invokevirtual 294, 3) := by decide +kernel
theorem dX10_does_61 : decode cX10_does 61 = .ok (.iconst 1, 1) := by decide +kernel
theorem dX10_does_62 : decode cX10_does 62 = .ok (.ireturn, 1) := by decide +kernel
theorem dX10_does_63 : decode cX10_does 63 = .ok (.aload_n 0, 1) := by decide +kernel
theorem dX10_does_64 : decode cX10_does 64 = .ok (.aload_n 0, 1) := by decide +kernel
theorem dX10_does_65 : decode cX10_does 65 = .ok (.getfield 41, 3) := by decide +kernel
theorem dX10_does_68 : decode cX10_does 68 = .ok (.iload_n 2, 1) := by decide +kernel
theorem dX10_does_69 : decode cX10_does 69 = .ok (.aload_n 0, 1) := by decide +kernel
theorem dX10_does_70 : decode cX10_does 70 = .ok (.getfield 80, 3) := by decide +kernel
theorem dX10_does_73 : decode cX10_does 73 = .ok (.iload_n 1, 1) := by decide +kernel
theorem dX10_does_74 : decode cX10_does 74 = .ok (.iaload, 1) := by decide +kernel
theorem dX10_does_75 : decode cX10_does 75 = .ok (.invokevirtual 306, 3) := by decide +kernel
theorem dX10_does_78 : decode cX10_does 78 = .ok (.ifCond .lt 7, 3) := by decide +kernel
theorem dX10_does_81 : decode cX10_does 81 = .ok (.iconst 1, 1) := by decide +kernel
theorem dX10_does_82 : decode cX10_does 82 = .ok (.goto 4, 3) := by decide +kernel
theorem dX10_does_85 : decode cX10_does 85 = .ok (.iconst 0, 1) := by decide +kernel
theorem dX10_does_86 : decode cX10_does 86 = .ok (.ireturn, 1) := by decide +kernel
theorem dX10_does_87 : decode cX10_does 87 = .ok (.aload_n 0, 1) := by decide +kernel
theorem dX10_does_88 : decode cX10_does 88 = .ok (.iload_n 2, 1) := by decide +kernel
theorem dX10_does_89 : decode cX10_does 89 = .ok (.invokevirtual 310, 3) := by decide +kernel
theorem dX10_does_92 : decode cX10_does 92 = .ok (.ifCond .lt 7, 3) := by decide +kernel
theorem dX10_does_95 : decode cX10_does 95 = .ok (.iconst 1, 1) := by decide +kernel
theorem dX10_does_96 : decode cX10_does 96 = .ok (.goto 4, 3) := by decide +kernel
theorem dX10_does_99 : decode cX10_does 99 = .ok (.iconst 0, 1) := by decide +kernel
theorem dX10_does_100 : decode cX10_does 100 = .ok (.ireturn, 1) := by decide +kernel
theorem dX10_does_101 : decode cX10_does 101 = .ok (.aload_n 0, 1) := by decide +kernel
theorem dX10_does_102 : decode cX10_does 102 = .ok (.getfield 41, 3) := by decide +kernel
theorem dX10_does_105 : decode cX10_does 105 = .ok (.bipush 27, 2) := by decide +kernel
theorem dX10_does_107 : decode cX10_does 107 = .ok (.iconst 1, 1) := by decide +kernel
theorem dX10_does_108 : decode cX10_does 108 = .ok (.aload_n 0, 1) := by decide +kernel
theorem dX10_does_109 : decode cX10_does 109 = .ok (.getfield 41, 3) := by decide +kernel
theorem dX10_does_112 : decode cX10_does 112 = .ok (.bipush 27, 2) := by decide +kernel
theorem dX10_does_114 : decode cX10_does 114 = .ok (.iaload, 1) := by decide +kernel
theorem dX10_does_115 : decode cX10_does 115 = .ok (.isub, 1) := by decide +kernel
theorem dX10_does_116 : decode cX10_does 116 = .ok (.iastore, 1) := by decide +kernel
theorem dX10_does_117 : decode cX10_does 117 = .ok (.iconst 1, 1) := by decide +kernel
theorem dX10_does_118 : decode cX10_does 118 = .ok (.ireturn, 1) := by decide +kernel
theorem dX10_does_119 : decode cX10_does 119 = .ok (.aload_n 0, 1) := by decide +kernel
theorem dX10_does_120 : decode cX10_does 120 = .ok (.iload_n 2, 1) := by decide +kernel
theorem dX10_does_121 : decode cX10_does 121 = .ok (.invokevirtual 313, 3) := by decide +kernel
theorem dX10_does_124 : decode cX10_does 124 = .ok (.ifCond .lt 7, 3) := by decide +kernel
theorem dX10_does_127 : decode cX10_does 127 = .ok (.iconst 1, 1) := by decide +kernel
theorem dX10_does_128 : decode cX10_does 128 = .ok (.goto 4, 3) := by decide +kernel
theorem dX10_does_131 : decode cX10_does 131 = .ok (.iconst 0, 1) := by decide +kernel
theorem dX10_does_132 : decode cX10_does 132 = .ok (.ireturn, 1) := by decide +kernel
theorem dX10_does_133 : decode cX10_does 133 = .ok (.aload_n 0, 1) := by decide +kernel
theorem dX10_does_134 : decode cX10_does 134 = .ok (.iload_n 2, 1) := by decide +kernel
theorem dX10_does_135 : decode cX10_does 135 = .ok (.aload_n 0, 1) := by decide +kernel
theorem dX10_does_136 : decode cX10_does 136 = .ok (.getfield 80, 3) := by decide +kernel
theorem dX10_does_139 : decode cX10_does 139 = .ok (.iload_n 1, 1) := by decide +kernel
theorem dX10_does_140 : decode cX10_does 140 = .ok (.iaload, 1) := by decide +kernel
theorem dX10_does_141 : decode cX10_does 141 = .ok (.bipush 100, 2) := by decide +kernel
theorem dX10_does_143 : decode cX10_does 143 = .ok (.aload_n 0, 1) := by decide +kernel
theorem dX10_does_144 : decode cX10_does 144 = .ok (.getfield 83, 3) := by decide +kernel
theorem dX10_does_147 : decode cX10_does 147 = .ok (.iload_n 1, 1) := by decide +kernel
theorem dX10_does_148 : decode cX10_does 148 = .ok (.iaload, 1) := by decide +kernel
theorem dX10_does_149 : decode cX10_does 149 = .ok (.imul, 1) := by decide +kernel
theorem dX10_does_150 : decode cX10_does 150 = .ok (.invokevirtual 297, 3) := by decide +kernel
theorem dX10_does_153 : decode cX10_does 153 = .ok (.ifCond .lt 7, 3) := by decide +kernel
theorem dX10_does_156 : decode cX10_does 156 = .ok (.iconst 1, 1) := by decide +kernel
theorem dX10_does_157 : decode cX10_does 157 = .ok (.goto 4, 3) := by decide +kernel
theorem dX10_does_160 : decode cX10_does 160 = .ok (.iconst 0, 1) := by decide +kernel
theorem dX10_does_161 : decode cX10_does 161 = .ok (.ireturn, 1) := by decide +kernel
theorem dX10_does_162 : decode cX10_does 162 = .ok (.aload_n 0, 1) := by decide +kernel
theorem dX10_does_163 : decode cX10_does 163 = .ok (.iload_n 2, 1) := by decide +kernel
theorem dX10_does_164 : decode cX10_does 164 = .ok (.aload_n 0, 1) := by decide +kernel
theorem dX10_does_165 : decode cX10_does 165 = .ok (.getfield 80, 3) := by decide +kernel
theorem dX10_does_168 : decode cX10_does 168 = .ok (.iload_n 1, 1) := by decide +kernel
theorem dX10_does_169 : decode cX10_does 169 = .ok (.iaload, 1) := by decide +kernel
theorem dX10_does_170 : decode cX10_does 170 = .ok (.bipush 100, 2) := by decide +kernel
theorem dX10_does_172 : decode cX10_does 172 = .ok (.aload_n 0, 1) := by decide +kernel
theorem dX10_does_173 : decode cX10_does 173 = .ok (.getfield 83, 3) := by decide +kernel
theorem dX10_does_176 : decode cX10_does 176 = .ok (.iload_n 1, 1) := by decide +kernel
theorem dX10_does_177 : decode cX10_does 177 = .ok (.iaload, 1) := by decide +kernel
theorem dX10_does_178 : decode cX10_does 178 = .ok (.imul, 1) := by decide +kernel
theorem dX10_does_179 : decode cX10_does 179 = .ok (.invokevirtual 303, 3) := by decide +kernel
theorem dX10_does_182 : decode cX10_does 182 = .ok (.ifCond .lt 7, 3) := by decide +kernel
theorem dX10_does_185 : decode cX10_does 185 = .ok (.iconst 1, 1) := by decide +kernel
theorem dX10_does_186 : decode cX10_does 186 = .ok (.goto 4, 3) := by decide +kernel
theorem dX10_does_189 : decode cX10_does 189 = .ok (.iconst 0, 1) := by decide +kernel
theorem dX10_does_190 : decode cX10_does 190 = .ok (.ireturn, 1) := by decide +kernel
theorem dX10_year_0 : decode cX10_year 0 = .ok (.aload_n 0, 1) := by decide +kernel
theorem dX10_year_1 : decode cX10_year 1 = .ok (.iconst 0, 1) := by decide +kernel
theorem dX10_year_2 : decode cX10_year 2 = .ok (.putfield 3, 3) := by decide +kernel
theorem dX10_year_5 : decode cX10_year 5 = .ok (.aload_n 0, 1) := by decide +kernel
theorem dX10_year_6 : decode cX10_year 6 = .ok (.bipush 60, 2) := by decide +kernel
theorem dX10_year_8 : decode cX10_year 8 = .ok (.invokevirtual 177, 3) := by decide +kernel
theorem dX10_year_11 : decode cX10_year 11 = .ok (.istore_n 1, 1) := by decide +kernel
theorem dX10_year_12 : decode cX10_year 12 = .ok (.aload_n 0, 1) := by decide +kernel
theorem dX10_year_13 : decode cX10_year 13 = .ok (.iconst 0, 1) := by decide +kernel
theorem dX10_year_14 : decode cX10_year 14 = .ok (.putfield 316, 3) := by decide +kernel
theorem dX10_year_17 : decode cX10_year 17 = .ok (.iconst 1, 1) := by decide +kernel
theorem dX10_year_18 : decode cX10_year 18 = .ok (.istore_n 2, 1) := by decide +kernel
theorem dX10_year_19 : decode cX10_year 19 = .ok (.iload_n 2, 1) := by decide +kernel
theorem dX10_year_20 : decode cX10_year 20 = .ok (.ifCond .eq 22, 3) := by decide +kernel
theorem dX10_year_23 : decode cX10_year 23 = .ok (.aload_n 0, 1) := by decide +kernel
theorem dX10_year_24 : decode cX10_year 24 = .ok (.getfield 130, 3) := by decide +kernel
theorem dX10_year_27 : decode cX10_year 27 = .ok (.aload_n 0, 1) := by decide +kernel
theorem dX10_year_28 : decode cX10_year 28 = .ok (.getfield 142, 3) := by decide +kernel
theorem dX10_year_31 : decode cX10_year 31 = .ok (.if_icmp .ge 11, 3) := by decide +kernel
theorem dX10_year_34 : decode cX10_year 34 = .ok (.aload_n 0, 1) := by decide +kernel
theorem dX10_year_35 : decode cX10_year 35 = .ok (.invokevirtual 324, 3) := by decide +kernel
theorem dX10_year_38 : decode cX10_year 38 = .ok (.istore_n 2, 1) := by decide +kernel
theorem dX10_year_39 : decode cX10_year 39 = .ok (.goto (-20), 3) := by decide +kernel
theorem dX10_year_42 : decode cX10_year 42 = .ok (.aload_n 0, 1) := by decide +kernel
theorem dX10_year_43 : decode cX10_year 43 = .ok (.iload_n 1, 1) := by decide +kernel
theorem dX10_year_44 : decode cX10_year 44 = .ok (.bipush 60, 2) := by decide +kernel
theorem dX10_year_46 : decode cX10_year 46 = .ok (.iload_n 2, 1) := by decide +kernel
theorem dX10_year_47 : decode cX10_year 47 = .ok (.invokevirtual 187, 3) := by decide +kernel
theorem dX10_year_50 : decode cX10_year 50 = .ok (.istore_n 3, 1) := by decide +kernel
theorem dX10_year_51 : decode cX10_year 51 = .ok (.iload_n 3, 1) := by decide +kernel
theorem dX10_year_52 : decode cX10_year 52 = .ok (.ifCond .ge 5, 3) := by decide +kernel
theorem dX10_year_55 : decode cX10_year 55 = .ok (.iload_n 3, 1) := by decide +kernel
theorem dX10_year_56 : decode cX10_year 56 = .ok (.ireturn, 1) := by decide +kernel
theorem dX10_year_57 : decode cX10_year 57 = .ok (.aload_n 0, 1) := by decide +kernel
theorem dX10_year_58 : decode cX10_year 58 = .ok (.invokevirtual 291, 3) := by decide +kernel
theorem dX10_year_61 : decode cX10_year 61 = .ok (.iconst 0, 1) := by decide +kernel
theorem dX10_year_62 : decode cX10_year 62 = .ok (.istore 4, 2) := by decide +kernel
theorem dX10_year_64 : decode cX10_year 64 = .ok (.iload 4, 2) := by decide +kernel
theorem dX10_year_66 : decode cX10_year 66 = .ok (.aload_n 0, 1) := by decide +kernel
theorem dX10_year_67 : decode cX10_year 67 = .ok (.getfield 316, 3) := by decide +kernel
theorem dX10_year_70 : decode cX10_year 70 = .ok (.if_icmp .ge 18, 3) := by decide +kernel
theorem dX10_year_73 : decode cX10_year 73 = .ok (.aload_n 0, 1) := by decide +kernel
theorem dX10_year_74 : decode cX10_year 74 = .ok (.iload 4, 2) := by decide +kernel
theorem dX10_year_76 : decode cX10_year 76 = .ok (.invokevirtual 327, 3) := by decide +kernel
theorem dX10_year_79 : decode cX10_year 79 = .ok (.ifCond .eq 9, 3) := by decide +kernel
theorem dX10_year_82 : decode cX10_year 82 = .ok (.iinc 4 1, 3) := by decide +kernel
theorem dX10_year_85 : decode cX10_year 85 = .ok (.goto (-21), 3) := by decide +kernel
theorem dX10_year_88 : decode cX10_year 88 = .ok (.aload_n 0, 1) := by decide +kernel
theorem dX10_year_89 : decode cX10_year 89 = .ok (.iconst 0, 1) := by decide +kernel
theorem dX10_year_90 : decode cX10_year 90 = .ok (.putfield 15, 3) := by decide +kernel
theorem dX10_year_93 : decode cX10_year 93 = .ok (.aload_n 0, 1) := by decide +kernel
theorem dX10_year_94 : decode cX10_year 94 = .ok (.iload 4, 2) := by decide +kernel
theorem dX10_year_96 : decode cX10_year 96 = .ok (.aload_n 0, 1) := by decide +kernel
theorem dX10_year_97 : decode cX10_year 97 = .ok (.getfield 316, 3) := by decide +kernel
theorem dX10_year_100 : decode cX10_year 100 = .ok (.if_icmp .ge 7, 3) := by decide +kernel
theorem dX10_year_103 : decode cX10_year 103 = .ok (.iconst 1, 1) := by decide +kernel
theorem dX10_year_104 : decode cX10_year 104 = .ok (.goto 4, 3) := by decide +kernel
theorem dX10_year_107 : decode cX10_year 107 = .ok (.iconst 0, 1) := by decide +kernel
theorem dX10_year_108 : decode cX10_year 108 = .ok (.invokestatic 145, 3) := by decide +kernel
theorem dX10_year_111 : decode cX10_year 111 = .ok (.i2l, 1) := by decide +kernel
theorem dX10_year_112 : decode cX10_year 112 = .ok (.invokevirtual 18, 3) := by decide +kernel
theorem dX10_year_115 : decode cX10_year 115 = .ok (.aload_n 0, 1) := by decide +kernel
theorem dX10_year_116 : decode cX10_year 116 = .ok (.aload_n 0, 1) := by decide +kernel
theorem dX10_year_117 : decode cX10_year 117 = .ok (.getfield 41, 3) := by decide +kernel
theorem dX10_year_120 : decode cX10_year 120 = .ok (.bipush 26, 2) := by decide +kernel
theorem dX10_year_122 : decode cX10_year 122 = .ok (.iaload, 1) := by decide +kernel
theorem dX10_year_123 : decode cX10_year 123 = .ok (.i2l, 1) := by decide +kernel
theorem dX10_year_124 : decode cX10_year 124 = .ok (.invokevirtual 18, 3) := by decide +kernel
theorem dX10_year_127 : decode cX10_year 127 = .ok (.iload 4, 2) := by decide +kernel
theorem dX10_year_129 : decode cX10_year 129 = .ok (.ifCond .le 12, 3) := by decide +kernel
theorem dX10_year_132 : decode cX10_year 132 = .ok (.aload_n 0, 1) := by decide +kernel
theorem dX10_year_133 : decode cX10_year 133 = .ok (.iload 4, 2) := by decide +kernel
theorem dX10_year_135 : decode cX10_year 135 = .ok (.invokevirtual 268, 3) := by decide +kernel
theorem dX10_year_138 : decode cX10_year 138 = .ok (.goto 4, 3) := by decide +kernel
theorem dX10_year_141 : decode cX10_year 141 = .ok (.iconst 0, 1) := by decide +kernel
theorem dX10_year_142 : decode cX10_year 142 = .ok (.ireturn, 1) := by decide +kernel
theorem dX10_copies_0 : decode cX10_copies 0 = .ok (.iconst 0, 1) := by decide +kernel
theorem dX10_copies_1 : decode cX10_copies 1 = .ok (.istore_n 1, 1) := by decide +kernel
theorem dX10_copies_2 : decode cX10_copies 2 = .ok (.iload_n 1, 1) := by decide +kernel
theorem dX10_copies_3 : decode cX10_copies 3 = .ok (.bipush 28, 2) := by decide +kernel
theorem dX10_copies_5 : decode cX10_copies 5 = .ok (.if_icmp .ge 21, 3) := by decide +kernel
theorem dX10_copies_8 : decode cX10_copies 8 = .ok (.aload_n 0, 1) := by decide +kernel
theorem dX10_copies_9 : decode cX10_copies 9 = .ok (.getfield 44, 3) := by decide +kernel
theorem dX10_copies_12 : decode cX10_copies 12 = .ok (.iload_n 1, 1) := by decide +kernel
theorem dX10_copies_13 : decode cX10_copies 13 = .ok (.aload_n 0, 1) := by decide +kernel
theorem dX10_copies_14 : decode cX10_copies 14 = .ok (.getfield 41, 3) := by decide +kernel
theorem dX10_copies_17 : decode cX10_copies 17 = .ok (.iload_n 1, 1) := by decide +kernel
theorem dX10_copies_18 : decode cX10_copies 18 = .ok (.iaload, 1) := by decide +kernel
theorem dX10_copies_19 : decode cX10_copies 19 = .ok (.iastore, 1) := by decide +kernel
theorem dX10_copies_20 : decode cX10_copies 20 = .ok (.iinc 1 1, 3) := by decide +kernel
theorem dX10_copies_23 : decode cX10_copies 23 = .ok (.goto (-21), 3) := by decide +kernel
theorem dX10_copies_26 : decode cX10_copies 26 = .ok (.return_, 1) := by decide +kernel
theorem dX10_ahead_0 : decode cX10_ahead 0 = .ok (.aload_n 0, 1) := by decide +kernel
theorem dX10_ahead_1 : decode cX10_ahead 1 = .ok (.iconst 0, 1) := by decide +kernel
theorem dX10_ahead_2 : decode cX10_ahead 2 = .ok (.putfield 3, 3) := by decide +kernel
theorem dX10_ahead_5 : decode cX10_ahead 5 = .ok (.aload_n 0, 1) := by decide +kernel
theorem dX10_ahead_6 : decode cX10_ahead 6 = .ok (.iload_n 1, 1) := by decide +kernel
theorem dX10_ahead_7 : decode cX10_ahead 7 = .ok (.invokevirtual 254, 3) := by decide +kernel
theorem dX10_ahead_10 : decode cX10_ahead 10 = .ok (.ifCond .eq 15, 3) := by decide +kernel
theorem dX10_ahead_13 : decode cX10_ahead 13 = .ok (.iload_n 2, 1) := by decide +kernel
theorem dX10_ahead_14 : decode cX10_ahead 14 = .ok (.i2l, 1) := by decide +kernel
theorem dX10_ahead_15 : decode cX10_ahead 15 = .ok (.lconst 0, 1) := by decide +kernel
theorem dX10_ahead_16 : decode cX10_ahead 16 = .ok (.ldc2_w 330, 3) := by decide +kernel
theorem dX10_ahead_19 : decode cX10_ahead 19 = .ok (.invokestatic 123, 3) := by decide +kernel
theorem dX10_ahead_22 : decode cX10_ahead 22 = .ok (.ifCond .ne 5, 3) := by decide +kernel
theorem dX10_ahead_25 : decode cX10_ahead 25 = .ok (.iconst (-1), 1) := by decide +kernel
theorem dX10_ahead_26 : decode cX10_ahead 26 = .ok (.ireturn, 1) := by decide +kernel
theorem dX10_ahead_27 : decode cX10_ahead 27 = .ok (.aload_n 0, 1) := by decide +kernel
theorem dX10_ahead_28 : decode cX10_ahead 28 = .ok (.invokevirtual 332, 3) := by decide +kernel
theorem dX10_ahead_31 : decode cX10_ahead 31 = .ok (.aload_n 0, 1) := by decide +kernel
theorem dX10_ahead_32 : decode cX10_ahead 32 = .ok (.aload_n 0, 1) := by decide +kernel
theorem dX10_ahead_33 : decode cX10_ahead 33 = .ok (.getfield 44, 3) := by decide +kernel
theorem dX10_ahead_36 : decode cX10_ahead 36 = .ok (.iload_n 2, 1) := by decide +kernel
theorem dX10_ahead_37 : decode cX10_ahead 37 = .ok (.invokevirtual 294, 3) := by decide +kernel
theorem dX10_ahead_40 : decode cX10_ahead 40 = .ok (.aload_n 0, 1) := by decide +kernel
theorem dX10_ahead_41 : decode cX10_ahead 41 = .ok (.iconst 0, 1) := by decide +kernel
theorem dX10_ahead_42 : decode cX10_ahead 42 = .ok (.putfield 15, 3) := by decide +kernel
theorem dX10_ahead_45 : decode cX10_ahead 45 = .ok (.aload_n 0, 1) := by decide +kernel
theorem dX10_ahead_46 : decode cX10_ahead 46 = .ok (.aload_n 0, 1) := by decide +kernel
theorem dX10_ahead_47 : decode cX10_ahead 47 = .ok (.getfield 44, 3) := by decide +kernel
theorem dX10_ahead_50 : decode cX10_ahead 50 = .ok (.iconst 0, 1) := by decide +kernel
theorem dX10_ahead_51 : decode cX10_ahead 51 = .ok (.iload_n 1, 1) := by decide +kernel
theorem dX10_ahead_52 : decode cX10_ahead 52 = .ok (.invokestatic 248, 3) := by decide +kernel
theorem dX10_ahead_55 : decode cX10_ahead 55 = .ok (.iaload, 1) := by decide +kernel
theorem dX10_ahead_56 : decode cX10_ahead 56 = .ok (.i2l, 1) := by decide +kernel
theorem dX10_ahead_57 : decode cX10_ahead 57 = .ok (.invokevirtual 18, 3) := by decide +kernel
theorem dX10_ahead_60 : decode cX10_ahead 60 = .ok (.aload_n 0, 1) := by decide +kernel
theorem dX10_ahead_61 : decode cX10_ahead 61 = .ok (.aload_n 0, 1) := by decide +kernel
theorem dX10_ahead_62 : decode cX10_ahead 62 = .ok (.getfield 44, 3) := by decide +kernel
theorem dX10_ahead_65 : decode cX10_ahead 65 = .ok (.iconst 1, 1) := by decide +kernel
theorem dX10_ahead_66 : decode cX10_ahead 66 = .ok (.iload_n 1, 1) := by decide +kernel
theorem dX10_ahead_67 : decode cX10_ahead 67 = .ok (.invokestatic 248, 3) := by decide +kernel
theorem dX10_ahead_70 : decode cX10_ahead 70 = .ok (.iaload, 1) := by decide +kernel
theorem dX10_ahead_71 : decode cX10_ahead 71 = .ok (.i2l, 1) := by decide +kernel
theorem dX10_ahead_72 : decode cX10_ahead 72 = .ok (.invokevirtual 18, 3) := by decide +kernel
theorem dX10_ahead_75 : decode cX10_ahead 75 = .ok (.aload_n 0, 1) := by decide +kernel
theorem dX10_ahead_76 : decode cX10_ahead 76 = .ok (.aload_n 0, 1) := by decide +kernel
theorem dX10_ahead_77 : decode cX10_ahead 77 = .ok (.getfield 44, 3) := by decide +kernel
theorem dX10_ahead_80 : decode cX10_ahead 80 = .ok (.iload_n 1, 1) := by decide +kernel
theorem dX10_ahead_81 : decode cX10_ahead 81 = .ok (.invokevirtual 262, 3) := by decide +kernel
theorem dX10_ahead_84 : decode cX10_ahead 84 = .ok (.ireturn, 1) := by decide +kernel
theorem dX10_doubles_0 : decode cX10_doubles 0 = .ok (.aload_n 0, 1) := by decide +kernel
theorem dX10_doubles_1 : decode cX10_doubles 1 = .ok (.iconst 0, 1) := by decide +kernel
theorem dX10_doubles_2 : decode cX10_doubles 2 = .ok (.putfield 3, 3) := by decide +kernel
theorem dX10_doubles_5 : decode cX10_doubles 5 = .ok (.aload_n 0, 1) := by decide +kernel
theorem dX10_doubles_6 : decode cX10_doubles 6 = .ok (.iload_n 1, 1) := by decide +kernel
theorem dX10_doubles_7 : decode cX10_doubles 7 = .ok (.invokevirtual 254, 3) := by decide +kernel
theorem dX10_doubles_10 : decode cX10_doubles 10 = .ok (.ifCond .ne 5, 3) := by decide +kernel
theorem dX10_doubles_13 : decode cX10_doubles 13 = .ok (.iconst (-1), 1) := by decide +kernel
theorem dX10_doubles_14 : decode cX10_doubles 14 = .ok (.ireturn, 1) := by decide +kernel
theorem dX10_doubles_15 : decode cX10_doubles 15 = .ok (.aload_n 0, 1) := by decide +kernel
theorem dX10_doubles_16 : decode cX10_doubles 16 = .ok (.invokevirtual 332, 3) := by decide +kernel
theorem dX10_doubles_19 : decode cX10_doubles 19 = .ok (.aload_n 0, 1) := by decide +kernel
theorem dX10_doubles_20 : decode cX10_doubles 20 = .ok (.aload_n 0, 1) := by decide +kernel
theorem dX10_doubles_21 : decode cX10_doubles 21 = .ok (.getfield 41, 3) := by decide +kernel
theorem dX10_doubles_24 : decode cX10_doubles 24 = .ok (.iload_n 1, 1) := by decide +kernel
theorem dX10_doubles_25 : decode cX10_doubles 25 = .ok (.invokevirtual 262, 3) := by decide +kernel
theorem dX10_doubles_28 : decode cX10_doubles 28 = .ok (.istore_n 2, 1) := by decide +kernel
theorem dX10_doubles_29 : decode cX10_doubles 29 = .ok (.iconst 1, 1) := by decide +kernel
theorem dX10_doubles_30 : decode cX10_doubles 30 = .ok (.istore_n 3, 1) := by decide +kernel
theorem dX10_doubles_31 : decode cX10_doubles 31 = .ok (.iload_n 3, 1) := by decide +kernel
theorem dX10_doubles_32 : decode cX10_doubles 32 = .ok (.bipush 99, 2) := by decide +kernel
theorem dX10_doubles_34 : decode cX10_doubles 34 = .ok (.if_icmp .gt 55, 3) := by decide +kernel
theorem dX10_doubles_37 : decode cX10_doubles 37 = .ok (.aload_n 0, 1) := by decide +kernel
theorem dX10_doubles_38 : decode cX10_doubles 38 = .ok (.aload_n 0, 1) := by decide +kernel
theorem dX10_doubles_39 : decode cX10_doubles 39 = .ok (.getfield 44, 3) := by decide +kernel
theorem dX10_doubles_42 : decode cX10_doubles 42 = .ok (.invokevirtual 274, 3) := by decide +kernel
theorem dX10_doubles_45 : decode cX10_doubles 45 = .ok (.aload_n 0, 1) := by decide +kernel
theorem dX10_doubles_46 : decode cX10_doubles 46 = .ok (.aload_n 0, 1) := by decide +kernel
theorem dX10_doubles_47 : decode cX10_doubles 47 = .ok (.getfield 44, 3) := by decide +kernel
theorem dX10_doubles_50 : decode cX10_doubles 50 = .ok (.iload_n 1, 1) := by decide +kernel
theorem dX10_doubles_51 : decode cX10_doubles 51 = .ok (.invokevirtual 262, 3) := by decide +kernel
theorem dX10_doubles_54 : decode cX10_doubles 54 = .ok (.istore 4, 2) := by decide +kernel
theorem dX10_doubles_56 : decode cX10_doubles 56 = .ok (.iload 4, 2) := by decide +kernel
theorem dX10_doubles_58 : decode cX10_doubles 58 = .ok (.ifCond .le 25, 3) := by decide +kernel
theorem dX10_doubles_61 : decode cX10_doubles 61 = .ok (.iload 4, 2) := by decide +kernel
theorem dX10_doubles_63 : decode cX10_doubles 63 = .ok (.iconst 2, 1) := by decide +kernel
theorem dX10_doubles_64 : decode cX10_doubles 64 = .ok (.iload_n 2, 1) := by decide +kernel
theorem dX10_doubles_65 : decode cX10_doubles 65 = .ok (.imul, 1) := by decide +kernel
theorem dX10_doubles_66 : decode cX10_doubles 66 = .ok (.if_icmp .lt 17, 3) := by decide +kernel
theorem dX10_doubles_69 : decode cX10_doubles 69 = .ok (.aload_n 0, 1) := by decide +kernel
theorem dX10_doubles_70 : decode cX10_doubles 70 = .ok (.iconst 0, 1) := by decide +kernel
theorem dX10_doubles_71 : decode cX10_doubles 71 = .ok (.putfield 15, 3) := by decide +kernel
theorem dX10_doubles_74 : decode cX10_doubles 74 = .ok (.aload_n 0, 1) := by decide +kernel
theorem dX10_doubles_75 : decode cX10_doubles 75 = .ok (.iload 4, 2) := by decide +kernel
theorem dX10_doubles_77 : decode cX10_doubles 77 = .ok (.i2l, 1) := by decide +kernel
theorem dX10_doubles_78 : decode cX10_doubles 78 = .ok (.invokevirtual 18, 3) := by decide +kernel
theorem dX10_doubles_81 : decode cX10_doubles 81 = .ok (.iload_n 3, 1) := by decide +kernel
theorem dX10_doubles_82 : decode cX10_doubles 82 = .ok (.ireturn, 1) := by decide +kernel
theorem dX10_doubles_83 : decode cX10_doubles 83 = .ok (.iinc 3 1, 3) := by decide +kernel
theorem dX10_doubles_86 : decode cX10_doubles 86 = .ok (.goto (-55), 3) := by decide +kernel
theorem dX10_doubles_89 : decode cX10_doubles 89 = .ok (.bipush (-2), 2) := by decide +kernel
theorem dX10_doubles_91 : decode cX10_doubles 91 = .ok (.ireturn, 1) := by decide +kernel
theorem dX10_trade_0 : decode cX10_trade 0 = .ok (.aload_n 0, 1) := by decide +kernel
theorem dX10_trade_1 : decode cX10_trade 1 = .ok (.iconst 0, 1) := by decide +kernel
theorem dX10_trade_2 : decode cX10_trade 2 = .ok (.putfield 3, 3) := by decide +kernel
theorem dX10_trade_5 : decode cX10_trade 5 = .ok (.iload_n 1, 1) := by decide +kernel
theorem dX10_trade_6 : decode cX10_trade 6 = .ok (.invokestatic 283, 3) := by decide +kernel
theorem dX10_trade_9 : decode cX10_trade 9 = .ok (.ifCond .ne 5, 3) := by decide +kernel
theorem dX10_trade_12 : decode cX10_trade 12 = .ok (.iconst (-1), 1) := by decide +kernel
theorem dX10_trade_13 : decode cX10_trade 13 = .ok (.ireturn, 1) := by decide +kernel
theorem dX10_trade_14 : decode cX10_trade 14 = .ok (.aload_n 0, 1) := by decide +kernel
theorem dX10_trade_15 : decode cX10_trade 15 = .ok (.iconst 0, 1) := by decide +kernel
theorem dX10_trade_16 : decode cX10_trade 16 = .ok (.putfield 15, 3) := by decide +kernel
theorem dX10_trade_19 : decode cX10_trade 19 = .ok (.iconst (-1), 1) := by decide +kernel
theorem dX10_trade_20 : decode cX10_trade 20 = .ok (.istore_n 2, 1) := by decide +kernel
theorem dX10_trade_21 : decode cX10_trade 21 = .ok (.iconst (-1), 1) := by decide +kernel
theorem dX10_trade_22 : decode cX10_trade 22 = .ok (.istore_n 3, 1) := by decide +kernel
theorem dX10_trade_23 : decode cX10_trade 23 = .ok (.iconst (-1), 1) := by decide +kernel
theorem dX10_trade_24 : decode cX10_trade 24 = .ok (.istore 4, 2) := by decide +kernel
theorem dX10_trade_26 : decode cX10_trade 26 = .ok (.iconst 0, 1) := by decide +kernel
theorem dX10_trade_27 : decode cX10_trade 27 = .ok (.istore 5, 2) := by decide +kernel
theorem dX10_trade_29 : decode cX10_trade 29 = .ok (.iload 5, 2) := by decide +kernel
theorem dX10_trade_31 : decode cX10_trade 31 = .ok (.aload_n 0, 1) := by decide +kernel
theorem dX10_trade_32 : decode cX10_trade 32 = .ok (.getfield 120, 3) := by decide +kernel
theorem dX10_trade_35 : decode cX10_trade 35 = .ok (.if_icmp .ge 120, 3) := by decide +kernel
theorem dX10_trade_38 : decode cX10_trade 38 = .ok (.aload_n 0, 1) := by decide +kernel
theorem dX10_trade_39 : decode cX10_trade 39 = .ok (.aload_n 0, 1) := by decide +kernel
theorem dX10_trade_40 : decode cX10_trade 40 = .ok (.getfield 41, 3) := by decide +kernel
theorem dX10_trade_43 : decode cX10_trade 43 = .ok (.iload 5, 2) := by decide +kernel
theorem dX10_trade_45 : decode cX10_trade 45 = .ok (.invokevirtual 262, 3) := by decide +kernel
theorem dX10_trade_48 : decode cX10_trade 48 = .ok (.istore 6, 2) := by decide +kernel
theorem dX10_trade_50 : decode cX10_trade 50 = .ok (.iload 6, 2) := by decide +kernel
theorem dX10_trade_52 : decode cX10_trade 52 = .ok (.ifCond .ne 7, 3) := by decide +kernel
theorem dX10_trade_55 : decode cX10_trade 55 = .ok (.iconst 0, 1) := by decide +kernel
theorem dX10_trade_56 : decode cX10_trade 56 = .ok (.goto 7, 3) := by decide +kernel
theorem dX10_trade_59 : decode cX10_trade 59 = .ok (.iload_n 1, 1) := by decide +kernel
theorem dX10_trade_60 : decode cX10_trade 60 = .ok (.iload 6, 2) := by decide +kernel
theorem dX10_trade_62 : decode cX10_trade 62 = .ok (.idiv, 1) := by decide +kernel
theorem dX10_trade_63 : decode cX10_trade 63 = .ok (.istore 7, 2) := by decide +kernel
theorem dX10_trade_65 : decode cX10_trade 65 = .ok (.iconst 0, 1) := by decide +kernel
theorem dX10_trade_66 : decode cX10_trade 66 = .ok (.istore 8, 2) := by decide +kernel
theorem dX10_trade_68 : decode cX10_trade 68 = .ok (.iload 8, 2) := by decide +kernel
theorem dX10_trade_70 : decode cX10_trade 70 = .ok (.aload_n 0, 1) := by decide +kernel
theorem dX10_trade_71 : decode cX10_trade 71 = .ok (.getfield 120, 3) := by decide +kernel
theorem dX10_trade_74 : decode cX10_trade 74 = .ok (.if_icmp .ge 75, 3) := by decide +kernel
theorem dX10_trade_77 : decode cX10_trade 77 = .ok (.aload_n 0, 1) := by decide +kernel
theorem dX10_trade_78 : decode cX10_trade 78 = .ok (.invokevirtual 332, 3) := by decide +kernel
theorem dX10_trade_81 : decode cX10_trade 81 = .ok (.aload_n 0, 1) := by decide +kernel
theorem dX10_trade_82 : decode cX10_trade 82 = .ok (.aload_n 0, 1) := by decide +kernel
theorem dX10_trade_83 : decode cX10_trade 83 = .ok (.getfield 44, 3) := by decide +kernel
theorem dX10_trade_86 : decode cX10_trade 86 = .ok (.iload 5, 2) := by decide +kernel
theorem dX10_trade_88 : decode cX10_trade 88 = .ok (.iload 8, 2) := by decide +kernel
theorem dX10_trade_90 : decode cX10_trade 90 = .ok (.isub, 1) := by decide +kernel
theorem dX10_trade_91 : decode cX10_trade 91 = .ok (.invokestatic 335, 3) := by decide +kernel
theorem dX10_trade_94 : decode cX10_trade 94 = .ok (.invokevirtual 294, 3) := by decide +kernel
theorem dX10_trade_97 : decode cX10_trade 97 = .ok (.iload_n 1, 1) := by decide +kernel
theorem dX10_trade_98 : decode cX10_trade 98 = .ok (.iload 7, 2) := by decide +kernel
theorem dX10_trade_100 : decode cX10_trade 100 = .ok (.iload 6, 2) := by decide +kernel
theorem dX10_trade_102 : decode cX10_trade 102 = .ok (.imul, 1) := by decide +kernel
theorem dX10_trade_103 : decode cX10_trade 103 = .ok (.isub, 1) := by decide +kernel
theorem dX10_trade_104 : decode cX10_trade 104 = .ok (.iload 7, 2) := by decide +kernel
theorem dX10_trade_106 : decode cX10_trade 106 = .ok (.aload_n 0, 1) := by decide +kernel
theorem dX10_trade_107 : decode cX10_trade 107 = .ok (.aload_n 0, 1) := by decide +kernel
theorem dX10_trade_108 : decode cX10_trade 108 = .ok (.getfield 44, 3) := by decide +kernel
theorem dX10_trade_111 : decode cX10_trade 111 = .ok (.iload 8, 2) := by decide +kernel
theorem dX10_trade_113 : decode cX10_trade 113 = .ok (.invokevirtual 262, 3) := by decide +kernel
theorem dX10_trade_116 : decode cX10_trade 116 = .ok (.imul, 1) := by decide +kernel
theorem dX10_trade_117 : decode cX10_trade 117 = .ok (.iadd, 1) := by decide +kernel
theorem dX10_trade_118 : decode cX10_trade 118 = .ok (.istore 9, 2) := by decide +kernel
theorem dX10_trade_120 : decode cX10_trade 120 = .ok (.iload 5, 2) := by decide +kernel
theorem dX10_trade_122 : decode cX10_trade 122 = .ok (.iload 8, 2) := by decide +kernel
theorem dX10_trade_124 : decode cX10_trade 124 = .ok (.if_icmp .eq 19, 3) := by decide +kernel
theorem dX10_trade_127 : decode cX10_trade 127 = .ok (.iload 9, 2) := by decide +kernel
theorem dX10_trade_129 : decode cX10_trade 129 = .ok (.iload_n 2, 1) := by decide +kernel
theorem dX10_trade_130 : decode cX10_trade 130 = .ok (.if_icmp .le 13, 3) := by decide +kernel
theorem dX10_trade_133 : decode cX10_trade 133 = .ok (.iload 9, 2) := by decide +kernel
theorem dX10_trade_135 : decode cX10_trade 135 = .ok (.istore_n 2, 1) := by decide +kernel
theorem dX10_trade_136 : decode cX10_trade 136 = .ok (.iload 5, 2) := by decide +kernel
theorem dX10_trade_138 : decode cX10_trade 138 = .ok (.istore_n 3, 1) := by decide +kernel
theorem dX10_trade_139 : decode cX10_trade 139 = .ok (.iload 8, 2) := by decide +kernel
theorem dX10_trade_141 : decode cX10_trade 141 = .ok (.istore 4, 2) := by decide +kernel
theorem dX10_trade_143 : decode cX10_trade 143 = .ok (.iinc 8 1, 3) := by decide +kernel
theorem dX10_trade_146 : decode cX10_trade 146 = .ok (.goto (-78), 3) := by decide +kernel
theorem dX10_trade_149 : decode cX10_trade 149 = .ok (.iinc 5 1, 3) := by decide +kernel
theorem dX10_trade_152 : decode cX10_trade 152 = .ok (.goto (-123), 3) := by decide +kernel
theorem dX10_trade_155 : decode cX10_trade 155 = .ok (.iload_n 3, 1) := by decide +kernel
theorem dX10_trade_156 : decode cX10_trade 156 = .ok (.ifCond .ge 5, 3) := by decide +kernel
theorem dX10_trade_159 : decode cX10_trade 159 = .ok (.iload_n 1, 1) := by decide +kernel
theorem dX10_trade_160 : decode cX10_trade 160 = .ok (.ireturn, 1) := by decide +kernel
theorem dX10_trade_161 : decode cX10_trade 161 = .ok (.aload_n 0, 1) := by decide +kernel
theorem dX10_trade_162 : decode cX10_trade 162 = .ok (.iload_n 3, 1) := by decide +kernel
theorem dX10_trade_163 : decode cX10_trade 163 = .ok (.i2l, 1) := by decide +kernel
theorem dX10_trade_164 : decode cX10_trade 164 = .ok (.invokevirtual 18, 3) := by decide +kernel
theorem dX10_trade_167 : decode cX10_trade 167 = .ok (.aload_n 0, 1) := by decide +kernel
theorem dX10_trade_168 : decode cX10_trade 168 = .ok (.iload 4, 2) := by decide +kernel
theorem dX10_trade_170 : decode cX10_trade 170 = .ok (.i2l, 1) := by decide +kernel
theorem dX10_trade_171 : decode cX10_trade 171 = .ok (.invokevirtual 18, 3) := by decide +kernel
theorem dX10_trade_174 : decode cX10_trade 174 = .ok (.iload_n 2, 1) := by decide +kernel
theorem dX10_trade_175 : decode cX10_trade 175 = .ok (.ireturn, 1) := by decide +kernel
theorem dX10_buysBy_0 : decode cX10_buysBy 0 = .ok (.iload_n 1, 1) := by decide +kernel
theorem dX10_buysBy_1 : decode cX10_buysBy 1 = .ok (.ifCond .ne 9, 3) := by decide +kernel
theorem dX10_buysBy_4 : decode cX10_buysBy 4 = .ok (.sipush 9999, 3) := by decide +kernel
theorem dX10_buysBy_7 : decode cX10_buysBy 7 = .ok (.goto 6, 3) := by decide +kernel
theorem dX10_buysBy_10 : decode cX10_buysBy 10 = .ok (.iload_n 0, 1) := by decide +kernel
theorem dX10_buysBy_11 : decode cX10_buysBy 11 = .ok (.iload_n 1, 1) := by decide +kernel
theorem dX10_buysBy_12 : decode cX10_buysBy 12 = .ok (.idiv, 1) := by decide +kernel
theorem dX10_buysBy_13 : decode cX10_buysBy 13 = .ok (.ireturn, 1) := by decide +kernel
theorem dX10_boughtBy_0 : decode cX10_boughtBy 0 = .ok (.iload_n 1, 1) := by decide +kernel
theorem dX10_boughtBy_1 : decode cX10_boughtBy 1 = .ok (.tableswitch 103 0 3 #[31, 45, 59, 75], 31) := by decide +kernel
theorem dX10_boughtBy_32 : decode cX10_boughtBy 32 = .ok (.iload_n 3, 1) := by decide +kernel
theorem dX10_boughtBy_33 : decode cX10_boughtBy 33 = .ok (.aload_n 0, 1) := by decide +kernel
theorem dX10_boughtBy_34 : decode cX10_boughtBy 34 = .ok (.aload_n 0, 1) := by decide +kernel
theorem dX10_boughtBy_35 : decode cX10_boughtBy 35 = .ok (.getfield 41, 3) := by decide +kernel
theorem dX10_boughtBy_38 : decode cX10_boughtBy 38 = .ok (.iload_n 2, 1) := by decide +kernel
theorem dX10_boughtBy_39 : decode cX10_boughtBy 39 = .ok (.invokevirtual 262, 3) := by decide +kernel
theorem dX10_boughtBy_42 : decode cX10_boughtBy 42 = .ok (.invokestatic 338, 3) := by decide +kernel
theorem dX10_boughtBy_45 : decode cX10_boughtBy 45 = .ok (.ireturn, 1) := by decide +kernel
theorem dX10_boughtBy_46 : decode cX10_boughtBy 46 = .ok (.iload_n 3, 1) := by decide +kernel
theorem dX10_boughtBy_47 : decode cX10_boughtBy 47 = .ok (.aload_n 0, 1) := by decide +kernel
theorem dX10_boughtBy_48 : decode cX10_boughtBy 48 = .ok (.iload_n 2, 1) := by decide +kernel
theorem dX10_boughtBy_49 : decode cX10_boughtBy 49 = .ok (.iconst 0, 1) := by decide +kernel
theorem dX10_boughtBy_50 : decode cX10_boughtBy 50 = .ok (.iconst 0, 1) := by decide +kernel
theorem dX10_boughtBy_51 : decode cX10_boughtBy 51 = .ok (.iconst 0, 1) := by decide +kernel
theorem dX10_boughtBy_52 : decode cX10_boughtBy 52 = .ok (.iconst 0, 1) := by decide +kernel
theorem dX10_boughtBy_53 : decode cX10_boughtBy 53 = .ok (.invokevirtual 250, 3) := by decide +kernel
theorem dX10_boughtBy_56 : decode cX10_boughtBy 56 = .ok (.invokestatic 338, 3) := by decide +kernel
theorem dX10_boughtBy_59 : decode cX10_boughtBy 59 = .ok (.ireturn, 1) := by decide +kernel
theorem dX10_boughtBy_60 : decode cX10_boughtBy 60 = .ok (.iload_n 3, 1) := by decide +kernel
theorem dX10_boughtBy_61 : decode cX10_boughtBy 61 = .ok (.aload_n 0, 1) := by decide +kernel
theorem dX10_boughtBy_62 : decode cX10_boughtBy 62 = .ok (.aload_n 0, 1) := by decide +kernel
theorem dX10_boughtBy_63 : decode cX10_boughtBy 63 = .ok (.getfield 41, 3) := by decide +kernel
theorem dX10_boughtBy_66 : decode cX10_boughtBy 66 = .ok (.iload_n 2, 1) := by decide +kernel
theorem dX10_boughtBy_67 : decode cX10_boughtBy 67 = .ok (.invokevirtual 262, 3) := by decide +kernel
theorem dX10_boughtBy_70 : decode cX10_boughtBy 70 = .ok (.iconst 2, 1) := by decide +kernel
theorem dX10_boughtBy_71 : decode cX10_boughtBy 71 = .ok (.idiv, 1) := by decide +kernel
theorem dX10_boughtBy_72 : decode cX10_boughtBy 72 = .ok (.invokestatic 338, 3) := by decide +kernel
theorem dX10_boughtBy_75 : decode cX10_boughtBy 75 = .ok (.ireturn, 1) := by decide +kernel
theorem dX10_boughtBy_76 : decode cX10_boughtBy 76 = .ok (.aload_n 0, 1) := by decide +kernel
theorem dX10_boughtBy_77 : decode cX10_boughtBy 77 = .ok (.invokevirtual 332, 3) := by decide +kernel
theorem dX10_boughtBy_80 : decode cX10_boughtBy 80 = .ok (.aload_n 0, 1) := by decide +kernel
theorem dX10_boughtBy_81 : decode cX10_boughtBy 81 = .ok (.aload_n 0, 1) := by decide +kernel
theorem dX10_boughtBy_82 : decode cX10_boughtBy 82 = .ok (.getfield 44, 3) := by decide +kernel
theorem dX10_boughtBy_85 : decode cX10_boughtBy 85 = .ok (.iload 4, 2) := by decide +kernel
theorem dX10_boughtBy_87 : decode cX10_boughtBy 87 = .ok (.invokevirtual 294, 3) := by decide +kernel
theorem dX10_boughtBy_90 : decode cX10_boughtBy 90 = .ok (.iload_n 3, 1) := by decide +kernel
theorem dX10_boughtBy_91 : decode cX10_boughtBy 91 = .ok (.aload_n 0, 1) := by decide +kernel
theorem dX10_boughtBy_92 : decode cX10_boughtBy 92 = .ok (.aload_n 0, 1) := by decide +kernel
theorem dX10_boughtBy_93 : decode cX10_boughtBy 93 = .ok (.getfield 44, 3) := by decide +kernel
theorem dX10_boughtBy_96 : decode cX10_boughtBy 96 = .ok (.iload_n 2, 1) := by decide +kernel
theorem dX10_boughtBy_97 : decode cX10_boughtBy 97 = .ok (.invokevirtual 262, 3) := by decide +kernel
theorem dX10_boughtBy_100 : decode cX10_boughtBy 100 = .ok (.invokestatic 338, 3) := by decide +kernel
theorem dX10_boughtBy_103 : decode cX10_boughtBy 103 = .ok (.ireturn, 1) := by decide +kernel
theorem dX10_boughtBy_104 : decode cX10_boughtBy 104 = .ok (.iload_n 3, 1) := by decide +kernel
theorem dX10_boughtBy_105 : decode cX10_boughtBy 105 = .ok (.iconst 2, 1) := by decide +kernel
theorem dX10_boughtBy_106 : decode cX10_boughtBy 106 = .ok (.idiv, 1) := by decide +kernel
theorem dX10_boughtBy_107 : decode cX10_boughtBy 107 = .ok (.aload_n 0, 1) := by decide +kernel
theorem dX10_boughtBy_108 : decode cX10_boughtBy 108 = .ok (.aload_n 0, 1) := by decide +kernel
theorem dX10_boughtBy_109 : decode cX10_boughtBy 109 = .ok (.getfield 41, 3) := by decide +kernel
theorem dX10_boughtBy_112 : decode cX10_boughtBy 112 = .ok (.iload_n 2, 1) := by decide +kernel
theorem dX10_boughtBy_113 : decode cX10_boughtBy 113 = .ok (.invokevirtual 262, 3) := by decide +kernel
theorem dX10_boughtBy_116 : decode cX10_boughtBy 116 = .ok (.invokestatic 338, 3) := by decide +kernel
theorem dX10_boughtBy_119 : decode cX10_boughtBy 119 = .ok (.ireturn, 1) := by decide +kernel
theorem dX10_canBuy_0 : decode cX10_canBuy 0 = .ok (.aload_n 0, 1) := by decide +kernel
theorem dX10_canBuy_1 : decode cX10_canBuy 1 = .ok (.iload_n 1, 1) := by decide +kernel
theorem dX10_canBuy_2 : decode cX10_canBuy 2 = .ok (.invokevirtual 254, 3) := by decide +kernel
theorem dX10_canBuy_5 : decode cX10_canBuy 5 = .ok (.ifCond .eq 31, 3) := by decide +kernel
theorem dX10_canBuy_8 : decode cX10_canBuy 8 = .ok (.iload_n 2, 1) := by decide +kernel
theorem dX10_canBuy_9 : decode cX10_canBuy 9 = .ok (.i2l, 1) := by decide +kernel
theorem dX10_canBuy_10 : decode cX10_canBuy 10 = .ok (.lconst 0, 1) := by decide +kernel
theorem dX10_canBuy_11 : decode cX10_canBuy 11 = .ok (.ldc2_w 278, 3) := by decide +kernel
theorem dX10_canBuy_14 : decode cX10_canBuy 14 = .ok (.invokestatic 123, 3) := by decide +kernel
theorem dX10_canBuy_17 : decode cX10_canBuy 17 = .ok (.ifCond .eq 19, 3) := by decide +kernel
theorem dX10_canBuy_20 : decode cX10_canBuy 20 = .ok (.iload_n 3, 1) := by decide +kernel
theorem dX10_canBuy_21 : decode cX10_canBuy 21 = .ok (.i2l, 1) := by decide +kernel
theorem dX10_canBuy_22 : decode cX10_canBuy 22 = .ok (.lconst 0, 1) := by decide +kernel
theorem dX10_canBuy_23 : decode cX10_canBuy 23 = .ok (.ldc2_w 289, 3) := by decide +kernel
theorem dX10_canBuy_26 : decode cX10_canBuy 26 = .ok (.invokestatic 123, 3) := by decide +kernel
theorem dX10_canBuy_29 : decode cX10_canBuy 29 = .ok (.ifCond .eq 7, 3) := by decide +kernel
theorem dX10_canBuy_32 : decode cX10_canBuy 32 = .ok (.iconst 1, 1) := by decide +kernel
theorem dX10_canBuy_33 : decode cX10_canBuy 33 = .ok (.goto 4, 3) := by decide +kernel
theorem dX10_canBuy_36 : decode cX10_canBuy 36 = .ok (.iconst 0, 1) := by decide +kernel
theorem dX10_canBuy_37 : decode cX10_canBuy 37 = .ok (.ireturn, 1) := by decide +kernel
theorem dX10_buys_0 : decode cX10_buys 0 = .ok (.aload_n 0, 1) := by decide +kernel
theorem dX10_buys_1 : decode cX10_buys 1 = .ok (.iconst 0, 1) := by decide +kernel
theorem dX10_buys_2 : decode cX10_buys 2 = .ok (.putfield 3, 3) := by decide +kernel
theorem dX10_buys_5 : decode cX10_buys 5 = .ok (.iload_n 1, 1) := by decide +kernel
theorem dX10_buys_6 : decode cX10_buys 6 = .ok (.i2l, 1) := by decide +kernel
theorem dX10_buys_7 : decode cX10_buys 7 = .ok (.lconst 0, 1) := by decide +kernel
theorem dX10_buys_8 : decode cX10_buys 8 = .ok (.ldc2_w 341, 3) := by decide +kernel
theorem dX10_buys_11 : decode cX10_buys 11 = .ok (.invokestatic 123, 3) := by decide +kernel
theorem dX10_buys_14 : decode cX10_buys 14 = .ok (.ifCond .eq 26, 3) := by decide +kernel
theorem dX10_buys_17 : decode cX10_buys 17 = .ok (.aload_n 0, 1) := by decide +kernel
theorem dX10_buys_18 : decode cX10_buys 18 = .ok (.iload_n 2, 1) := by decide +kernel
theorem dX10_buys_19 : decode cX10_buys 19 = .ok (.iload_n 3, 1) := by decide +kernel
theorem dX10_buys_20 : decode cX10_buys 20 = .ok (.iload 4, 2) := by decide +kernel
theorem dX10_buys_22 : decode cX10_buys 22 = .ok (.invokevirtual 343, 3) := by decide +kernel
theorem dX10_buys_25 : decode cX10_buys 25 = .ok (.ifCond .eq 15, 3) := by decide +kernel
theorem dX10_buys_28 : decode cX10_buys 28 = .ok (.aload_n 0, 1) := by decide +kernel
theorem dX10_buys_29 : decode cX10_buys 29 = .ok (.iload_n 1, 1) := by decide +kernel
theorem dX10_buys_30 : decode cX10_buys 30 = .ok (.iload_n 2, 1) := by decide +kernel
theorem dX10_buys_31 : decode cX10_buys 31 = .ok (.iload_n 3, 1) := by decide +kernel
theorem dX10_buys_32 : decode cX10_buys 32 = .ok (.iload 4, 2) := by decide +kernel
theorem dX10_buys_34 : decode cX10_buys 34 = .ok (.invokevirtual 347, 3) := by decide +kernel
theorem dX10_buys_37 : decode cX10_buys 37 = .ok (.goto 4, 3) := by decide +kernel
theorem dX10_buys_40 : decode cX10_buys 40 = .ok (.iconst (-1), 1) := by decide +kernel
theorem dX10_buys_41 : decode cX10_buys 41 = .ok (.ireturn, 1) := by decide +kernel
theorem dX10_best_0 : decode cX10_best 0 = .ok (.aload_n 0, 1) := by decide +kernel
theorem dX10_best_1 : decode cX10_best 1 = .ok (.iconst 0, 1) := by decide +kernel
theorem dX10_best_2 : decode cX10_best 2 = .ok (.putfield 3, 3) := by decide +kernel
theorem dX10_best_5 : decode cX10_best 5 = .ok (.aload_n 0, 1) := by decide +kernel
theorem dX10_best_6 : decode cX10_best 6 = .ok (.iload_n 1, 1) := by decide +kernel
theorem dX10_best_7 : decode cX10_best 7 = .ok (.iload_n 2, 1) := by decide +kernel
theorem dX10_best_8 : decode cX10_best 8 = .ok (.iload_n 3, 1) := by decide +kernel
theorem dX10_best_9 : decode cX10_best 9 = .ok (.invokevirtual 343, 3) := by decide +kernel
theorem dX10_best_12 : decode cX10_best 12 = .ok (.ifCond .ne 5, 3) := by decide +kernel
theorem dX10_best_15 : decode cX10_best 15 = .ok (.iconst (-1), 1) := by decide +kernel
theorem dX10_best_16 : decode cX10_best 16 = .ok (.ireturn, 1) := by decide +kernel
theorem dX10_best_17 : decode cX10_best 17 = .ok (.iconst (-1), 1) := by decide +kernel
theorem dX10_best_18 : decode cX10_best 18 = .ok (.istore 4, 2) := by decide +kernel
theorem dX10_best_20 : decode cX10_best 20 = .ok (.iconst (-1), 1) := by decide +kernel
theorem dX10_best_21 : decode cX10_best 21 = .ok (.istore 5, 2) := by decide +kernel
theorem dX10_best_23 : decode cX10_best 23 = .ok (.iconst 0, 1) := by decide +kernel
theorem dX10_best_24 : decode cX10_best 24 = .ok (.istore 6, 2) := by decide +kernel
theorem dX10_best_26 : decode cX10_best 26 = .ok (.iload 6, 2) := by decide +kernel
theorem dX10_best_28 : decode cX10_best 28 = .ok (.iconst 4, 1) := by decide +kernel
theorem dX10_best_29 : decode cX10_best 29 = .ok (.if_icmp .gt 45, 3) := by decide +kernel
theorem dX10_best_32 : decode cX10_best 32 = .ok (.aload_n 0, 1) := by decide +kernel
theorem dX10_best_33 : decode cX10_best 33 = .ok (.iload 6, 2) := by decide +kernel
theorem dX10_best_35 : decode cX10_best 35 = .ok (.iload_n 1, 1) := by decide +kernel
theorem dX10_best_36 : decode cX10_best 36 = .ok (.iload_n 2, 1) := by decide +kernel
theorem dX10_best_37 : decode cX10_best 37 = .ok (.iload_n 3, 1) := by decide +kernel
theorem dX10_best_38 : decode cX10_best 38 = .ok (.invokevirtual 347, 3) := by decide +kernel
theorem dX10_best_41 : decode cX10_best 41 = .ok (.istore 7, 2) := by decide +kernel
theorem dX10_best_43 : decode cX10_best 43 = .ok (.iload 7, 2) := by decide +kernel
theorem dX10_best_45 : decode cX10_best 45 = .ok (.iload 5, 2) := by decide +kernel
theorem dX10_best_47 : decode cX10_best 47 = .ok (.if_icmp .le 8, 3) := by decide +kernel
theorem dX10_best_50 : decode cX10_best 50 = .ok (.iload 6, 2) := by decide +kernel
theorem dX10_best_52 : decode cX10_best 52 = .ok (.goto 5, 3) := by decide +kernel
theorem dX10_best_55 : decode cX10_best 55 = .ok (.iload 4, 2) := by decide +kernel
theorem dX10_best_57 : decode cX10_best 57 = .ok (.istore 4, 2) := by decide +kernel
theorem dX10_best_59 : decode cX10_best 59 = .ok (.iload 5, 2) := by decide +kernel
theorem dX10_best_61 : decode cX10_best 61 = .ok (.iload 7, 2) := by decide +kernel
theorem dX10_best_63 : decode cX10_best 63 = .ok (.invokestatic 245, 3) := by decide +kernel
theorem dX10_best_66 : decode cX10_best 66 = .ok (.istore 5, 2) := by decide +kernel
theorem dX10_best_68 : decode cX10_best 68 = .ok (.iinc 6 1, 3) := by decide +kernel
theorem dX10_best_71 : decode cX10_best 71 = .ok (.goto (-45), 3) := by decide +kernel
theorem dX10_best_74 : decode cX10_best 74 = .ok (.aload_n 0, 1) := by decide +kernel
theorem dX10_best_75 : decode cX10_best 75 = .ok (.iconst 0, 1) := by decide +kernel
theorem dX10_best_76 : decode cX10_best 76 = .ok (.putfield 15, 3) := by decide +kernel
theorem dX10_best_79 : decode cX10_best 79 = .ok (.aload_n 0, 1) := by decide +kernel
theorem dX10_best_80 : decode cX10_best 80 = .ok (.iload 5, 2) := by decide +kernel
theorem dX10_best_82 : decode cX10_best 82 = .ok (.i2l, 1) := by decide +kernel
theorem dX10_best_83 : decode cX10_best 83 = .ok (.invokevirtual 18, 3) := by decide +kernel
theorem dX10_best_86 : decode cX10_best 86 = .ok (.iload 4, 2) := by decide +kernel
theorem dX10_best_88 : decode cX10_best 88 = .ok (.ireturn, 1) := by decide +kernel
theorem dX10_closes_0 : decode cX10_closes 0 = .ok (.aload_n 0, 1) := by decide +kernel
theorem dX10_closes_1 : decode cX10_closes 1 = .ok (.iconst 0, 1) := by decide +kernel
theorem dX10_closes_2 : decode cX10_closes 2 = .ok (.putfield 3, 3) := by decide +kernel
theorem dX10_closes_5 : decode cX10_closes 5 = .ok (.aload_n 0, 1) := by decide +kernel
theorem dX10_closes_6 : decode cX10_closes 6 = .ok (.iload_n 1, 1) := by decide +kernel
theorem dX10_closes_7 : decode cX10_closes 7 = .ok (.invokevirtual 254, 3) := by decide +kernel
theorem dX10_closes_10 : decode cX10_closes 10 = .ok (.ifCond .eq 27, 3) := by decide +kernel
theorem dX10_closes_13 : decode cX10_closes 13 = .ok (.iload_n 2, 1) := by decide +kernel
theorem dX10_closes_14 : decode cX10_closes 14 = .ok (.i2l, 1) := by decide +kernel
theorem dX10_closes_15 : decode cX10_closes 15 = .ok (.lconst 1, 1) := by decide +kernel
theorem dX10_closes_16 : decode cX10_closes 16 = .ok (.ldc2_w 351, 3) := by decide +kernel
theorem dX10_closes_19 : decode cX10_closes 19 = .ok (.invokestatic 123, 3) := by decide +kernel
theorem dX10_closes_22 : decode cX10_closes 22 = .ok (.ifCond .eq 15, 3) := by decide +kernel
theorem dX10_closes_25 : decode cX10_closes 25 = .ok (.iload_n 3, 1) := by decide +kernel
theorem dX10_closes_26 : decode cX10_closes 26 = .ok (.i2l, 1) := by decide +kernel
theorem dX10_closes_27 : decode cX10_closes 27 = .ok (.lconst 0, 1) := by decide +kernel
theorem dX10_closes_28 : decode cX10_closes 28 = .ok (.ldc2_w 351, 3) := by decide +kernel
theorem dX10_closes_31 : decode cX10_closes 31 = .ok (.invokestatic 123, 3) := by decide +kernel
theorem dX10_closes_34 : decode cX10_closes 34 = .ok (.ifCond .ne 5, 3) := by decide +kernel
theorem dX10_closes_37 : decode cX10_closes 37 = .ok (.iconst (-1), 1) := by decide +kernel
theorem dX10_closes_38 : decode cX10_closes 38 = .ok (.ireturn, 1) := by decide +kernel
theorem dX10_closes_39 : decode cX10_closes 39 = .ok (.iconst 0, 1) := by decide +kernel
theorem dX10_closes_40 : decode cX10_closes 40 = .ok (.istore 4, 2) := by decide +kernel
theorem dX10_closes_42 : decode cX10_closes 42 = .ok (.ldc_w 353, 3) := by decide +kernel
theorem dX10_closes_45 : decode cX10_closes 45 = .ok (.istore 5, 2) := by decide +kernel
theorem dX10_closes_47 : decode cX10_closes 47 = .ok (.iconst 0, 1) := by decide +kernel
theorem dX10_closes_48 : decode cX10_closes 48 = .ok (.istore 6, 2) := by decide +kernel
theorem dX10_closes_50 : decode cX10_closes 50 = .ok (.iload 6, 2) := by decide +kernel
theorem dX10_closes_52 : decode cX10_closes 52 = .ok (.iconst 1, 1) := by decide +kernel
theorem dX10_closes_53 : decode cX10_closes 53 = .ok (.iload_n 2, 1) := by decide +kernel
theorem dX10_closes_54 : decode cX10_closes 54 = .ok (.ishl, 1) := by decide +kernel
theorem dX10_closes_55 : decode cX10_closes 55 = .ok (.if_icmp .ge 130, 3) := by decide +kernel
theorem dX10_closes_58 : decode cX10_closes 58 = .ok (.iload 6, 2) := by decide +kernel
theorem dX10_closes_60 : decode cX10_closes 60 = .ok (.invokestatic 354, 3) := by decide +kernel
theorem dX10_closes_63 : decode cX10_closes 63 = .ok (.iload_n 3, 1) := by decide +kernel
theorem dX10_closes_64 : decode cX10_closes 64 = .ok (.if_icmp .gt 115, 3) := by decide +kernel
theorem dX10_closes_67 : decode cX10_closes 67 = .ok (.aload_n 0, 1) := by decide +kernel
theorem dX10_closes_68 : decode cX10_closes 68 = .ok (.invokevirtual 332, 3) := by decide +kernel
theorem dX10_closes_71 : decode cX10_closes 71 = .ok (.iconst 0, 1) := by decide +kernel
theorem dX10_closes_72 : decode cX10_closes 72 = .ok (.istore 7, 2) := by decide +kernel
theorem dX10_closes_74 : decode cX10_closes 74 = .ok (.iload 7, 2) := by decide +kernel
theorem dX10_closes_76 : decode cX10_closes 76 = .ok (.iload_n 2, 1) := by decide +kernel
theorem dX10_closes_77 : decode cX10_closes 77 = .ok (.if_icmp .ge 34, 3) := by decide +kernel
theorem dX10_closes_80 : decode cX10_closes 80 = .ok (.aload_n 0, 1) := by decide +kernel
theorem dX10_closes_81 : decode cX10_closes 81 = .ok (.getfield 44, 3) := by decide +kernel
theorem dX10_closes_84 : decode cX10_closes 84 = .ok (.bipush 27, 2) := by decide +kernel
theorem dX10_closes_86 : decode cX10_closes 86 = .ok (.iload 6, 2) := by decide +kernel
theorem dX10_closes_88 : decode cX10_closes 88 = .ok (.iload 7, 2) := by decide +kernel
theorem dX10_closes_90 : decode cX10_closes 90 = .ok (.invokestatic 359, 3) := by decide +kernel
theorem dX10_closes_93 : decode cX10_closes 93 = .ok (.invokestatic 145, 3) := by decide +kernel
theorem dX10_closes_96 : decode cX10_closes 96 = .ok (.iastore, 1) := by decide +kernel
theorem dX10_closes_97 : decode cX10_closes 97 = .ok (.aload_n 0, 1) := by decide +kernel
theorem dX10_closes_98 : decode cX10_closes 98 = .ok (.aload_n 0, 1) := by decide +kernel
theorem dX10_closes_99 : decode cX10_closes 99 = .ok (.getfield 44, 3) := by decide +kernel
theorem dX10_closes_102 : decode cX10_closes 102 = .ok (.invokevirtual 274, 3) := by decide +kernel
theorem dX10_closes_105 : decode cX10_closes 105 = .ok (.iinc 7 1, 3) := by decide +kernel
theorem dX10_closes_108 : decode cX10_closes 108 = .ok (.goto (-34), 3) := by decide +kernel
theorem dX10_closes_111 : decode cX10_closes 111 = .ok (.aload_n 0, 1) := by decide +kernel
theorem dX10_closes_112 : decode cX10_closes 112 = .ok (.aload_n 0, 1) := by decide +kernel
theorem dX10_closes_113 : decode cX10_closes 113 = .ok (.getfield 44, 3) := by decide +kernel
theorem dX10_closes_116 : decode cX10_closes 116 = .ok (.iload_n 1, 1) := by decide +kernel
theorem dX10_closes_117 : decode cX10_closes 117 = .ok (.invokevirtual 262, 3) := by decide +kernel
theorem dX10_closes_120 : decode cX10_closes 120 = .ok (.istore 7, 2) := by decide +kernel
theorem dX10_closes_122 : decode cX10_closes 122 = .ok (.iload 7, 2) := by decide +kernel
theorem dX10_closes_124 : decode cX10_closes 124 = .ok (.iload 5, 2) := by decide +kernel
theorem dX10_closes_126 : decode cX10_closes 126 = .ok (.if_icmp .lt 23, 3) := by decide +kernel
theorem dX10_closes_129 : decode cX10_closes 129 = .ok (.iload 7, 2) := by decide +kernel
theorem dX10_closes_131 : decode cX10_closes 131 = .ok (.iload 5, 2) := by decide +kernel
theorem dX10_closes_133 : decode cX10_closes 133 = .ok (.if_icmp .ne 20, 3) := by decide +kernel
theorem dX10_closes_136 : decode cX10_closes 136 = .ok (.iload 6, 2) := by decide +kernel
theorem dX10_closes_138 : decode cX10_closes 138 = .ok (.invokestatic 354, 3) := by decide +kernel
theorem dX10_closes_141 : decode cX10_closes 141 = .ok (.iload 4, 2) := by decide +kernel
theorem dX10_closes_143 : decode cX10_closes 143 = .ok (.invokestatic 354, 3) := by decide +kernel
theorem dX10_closes_146 : decode cX10_closes 146 = .ok (.if_icmp .ge 7, 3) := by decide +kernel
theorem dX10_closes_149 : decode cX10_closes 149 = .ok (.iconst 1, 1) := by decide +kernel
theorem dX10_closes_150 : decode cX10_closes 150 = .ok (.goto 4, 3) := by decide +kernel
theorem dX10_closes_153 : decode cX10_closes 153 = .ok (.iconst 0, 1) := by decide +kernel
theorem dX10_closes_154 : decode cX10_closes 154 = .ok (.istore 8, 2) := by decide +kernel
theorem dX10_closes_156 : decode cX10_closes 156 = .ok (.iload 8, 2) := by decide +kernel
theorem dX10_closes_158 : decode cX10_closes 158 = .ok (.ifCond .eq 8, 3) := by decide +kernel
theorem dX10_closes_161 : decode cX10_closes 161 = .ok (.iload 6, 2) := by decide +kernel
theorem dX10_closes_163 : decode cX10_closes 163 = .ok (.goto 5, 3) := by decide +kernel
theorem dX10_closes_166 : decode cX10_closes 166 = .ok (.iload 4, 2) := by decide +kernel
theorem dX10_closes_168 : decode cX10_closes 168 = .ok (.istore 4, 2) := by decide +kernel
theorem dX10_closes_170 : decode cX10_closes 170 = .ok (.iload 5, 2) := by decide +kernel
theorem dX10_closes_172 : decode cX10_closes 172 = .ok (.iload 7, 2) := by decide +kernel
theorem dX10_closes_174 : decode cX10_closes 174 = .ok (.invokestatic 136, 3) := by decide +kernel
theorem dX10_closes_177 : decode cX10_closes 177 = .ok (.istore 5, 2) := by decide +kernel
theorem dX10_closes_179 : decode cX10_closes 179 = .ok (.iinc 6 1, 3) := by decide +kernel
theorem dX10_closes_182 : decode cX10_closes 182 = .ok (.goto (-132), 3) := by decide +kernel
theorem dX10_closes_185 : decode cX10_closes 185 = .ok (.aload_n 0, 1) := by decide +kernel
theorem dX10_closes_186 : decode cX10_closes 186 = .ok (.iconst 0, 1) := by decide +kernel
theorem dX10_closes_187 : decode cX10_closes 187 = .ok (.putfield 15, 3) := by decide +kernel
theorem dX10_closes_190 : decode cX10_closes 190 = .ok (.aload_n 0, 1) := by decide +kernel
theorem dX10_closes_191 : decode cX10_closes 191 = .ok (.iload 4, 2) := by decide +kernel
theorem dX10_closes_193 : decode cX10_closes 193 = .ok (.i2l, 1) := by decide +kernel
theorem dX10_closes_194 : decode cX10_closes 194 = .ok (.invokevirtual 18, 3) := by decide +kernel
theorem dX10_closes_197 : decode cX10_closes 197 = .ok (.iload 5, 2) := by decide +kernel
theorem dX10_closes_199 : decode cX10_closes 199 = .ok (.ireturn, 1) := by decide +kernel
theorem dX10_grows_0 : decode cX10_grows 0 = .ok (.aload_n 0, 1) := by decide +kernel
theorem dX10_grows_1 : decode cX10_grows 1 = .ok (.iconst 0, 1) := by decide +kernel
theorem dX10_grows_2 : decode cX10_grows 2 = .ok (.putfield 3, 3) := by decide +kernel
theorem dX10_grows_5 : decode cX10_grows 5 = .ok (.iload_n 1, 1) := by decide +kernel
theorem dX10_grows_6 : decode cX10_grows 6 = .ok (.i2l, 1) := by decide +kernel
theorem dX10_grows_7 : decode cX10_grows 7 = .ok (.lconst 1, 1) := by decide +kernel
theorem dX10_grows_8 : decode cX10_grows 8 = .ok (.ldc2_w 289, 3) := by decide +kernel
theorem dX10_grows_11 : decode cX10_grows 11 = .ok (.invokestatic 123, 3) := by decide +kernel
theorem dX10_grows_14 : decode cX10_grows 14 = .ok (.ifCond .ne 5, 3) := by decide +kernel
theorem dX10_grows_17 : decode cX10_grows 17 = .ok (.iconst (-1), 1) := by decide +kernel
theorem dX10_grows_18 : decode cX10_grows 18 = .ok (.ireturn, 1) := by decide +kernel
theorem dX10_grows_19 : decode cX10_grows 19 = .ok (.aload_n 0, 1) := by decide +kernel
theorem dX10_grows_20 : decode cX10_grows 20 = .ok (.invokevirtual 332, 3) := by decide +kernel
theorem dX10_grows_23 : decode cX10_grows 23 = .ok (.aload_n 0, 1) := by decide +kernel
theorem dX10_grows_24 : decode cX10_grows 24 = .ok (.aload_n 0, 1) := by decide +kernel
theorem dX10_grows_25 : decode cX10_grows 25 = .ok (.getfield 44, 3) := by decide +kernel
theorem dX10_grows_28 : decode cX10_grows 28 = .ok (.iload_n 1, 1) := by decide +kernel
theorem dX10_grows_29 : decode cX10_grows 29 = .ok (.invokevirtual 294, 3) := by decide +kernel
theorem dX10_grows_32 : decode cX10_grows 32 = .ok (.bipush (-2), 2) := by decide +kernel
theorem dX10_grows_34 : decode cX10_grows 34 = .ok (.istore_n 2, 1) := by decide +kernel
theorem dX10_grows_35 : decode cX10_grows 35 = .ok (.ldc_w 363, 3) := by decide +kernel
theorem dX10_grows_38 : decode cX10_grows 38 = .ok (.istore_n 3, 1) := by decide +kernel
theorem dX10_grows_39 : decode cX10_grows 39 = .ok (.iconst 0, 1) := by decide +kernel
theorem dX10_grows_40 : decode cX10_grows 40 = .ok (.istore 4, 2) := by decide +kernel
theorem dX10_grows_42 : decode cX10_grows 42 = .ok (.iload 4, 2) := by decide +kernel
theorem dX10_grows_44 : decode cX10_grows 44 = .ok (.aload_n 0, 1) := by decide +kernel
theorem dX10_grows_45 : decode cX10_grows 45 = .ok (.getfield 120, 3) := by decide +kernel
theorem dX10_grows_48 : decode cX10_grows 48 = .ok (.if_icmp .ge 52, 3) := by decide +kernel
theorem dX10_grows_51 : decode cX10_grows 51 = .ok (.aload_n 0, 1) := by decide +kernel
theorem dX10_grows_52 : decode cX10_grows 52 = .ok (.aload_n 0, 1) := by decide +kernel
theorem dX10_grows_53 : decode cX10_grows 53 = .ok (.getfield 44, 3) := by decide +kernel
theorem dX10_grows_56 : decode cX10_grows 56 = .ok (.iload 4, 2) := by decide +kernel
theorem dX10_grows_58 : decode cX10_grows 58 = .ok (.invokevirtual 262, 3) := by decide +kernel
theorem dX10_grows_61 : decode cX10_grows 61 = .ok (.aload_n 0, 1) := by decide +kernel
theorem dX10_grows_62 : decode cX10_grows 62 = .ok (.aload_n 0, 1) := by decide +kernel
theorem dX10_grows_63 : decode cX10_grows 63 = .ok (.getfield 41, 3) := by decide +kernel
theorem dX10_grows_66 : decode cX10_grows 66 = .ok (.iload 4, 2) := by decide +kernel
theorem dX10_grows_68 : decode cX10_grows 68 = .ok (.invokevirtual 262, 3) := by decide +kernel
theorem dX10_grows_71 : decode cX10_grows 71 = .ok (.isub, 1) := by decide +kernel
theorem dX10_grows_72 : decode cX10_grows 72 = .ok (.istore 5, 2) := by decide +kernel
theorem dX10_grows_74 : decode cX10_grows 74 = .ok (.iload 5, 2) := by decide +kernel
theorem dX10_grows_76 : decode cX10_grows 76 = .ok (.iload_n 3, 1) := by decide +kernel
theorem dX10_grows_77 : decode cX10_grows 77 = .ok (.if_icmp .le 8, 3) := by decide +kernel
theorem dX10_grows_80 : decode cX10_grows 80 = .ok (.iload 4, 2) := by decide +kernel
theorem dX10_grows_82 : decode cX10_grows 82 = .ok (.goto 4, 3) := by decide +kernel
theorem dX10_grows_85 : decode cX10_grows 85 = .ok (.iload_n 2, 1) := by decide +kernel
theorem dX10_grows_86 : decode cX10_grows 86 = .ok (.istore_n 2, 1) := by decide +kernel
theorem dX10_grows_87 : decode cX10_grows 87 = .ok (.iload_n 3, 1) := by decide +kernel
theorem dX10_grows_88 : decode cX10_grows 88 = .ok (.iload 5, 2) := by decide +kernel
theorem dX10_grows_90 : decode cX10_grows 90 = .ok (.invokestatic 245, 3) := by decide +kernel
theorem dX10_grows_93 : decode cX10_grows 93 = .ok (.istore_n 3, 1) := by decide +kernel
theorem dX10_grows_94 : decode cX10_grows 94 = .ok (.iinc 4 1, 3) := by decide +kernel
theorem dX10_grows_97 : decode cX10_grows 97 = .ok (.goto (-55), 3) := by decide +kernel
theorem dX10_grows_100 : decode cX10_grows 100 = .ok (.iload_n 2, 1) := by decide +kernel
theorem dX10_grows_101 : decode cX10_grows 101 = .ok (.ifCond .lt 14, 3) := by decide +kernel
theorem dX10_grows_104 : decode cX10_grows 104 = .ok (.aload_n 0, 1) := by decide +kernel
theorem dX10_grows_105 : decode cX10_grows 105 = .ok (.iconst 0, 1) := by decide +kernel
theorem dX10_grows_106 : decode cX10_grows 106 = .ok (.putfield 15, 3) := by decide +kernel
theorem dX10_grows_109 : decode cX10_grows 109 = .ok (.aload_n 0, 1) := by decide +kernel
theorem dX10_grows_110 : decode cX10_grows 110 = .ok (.iload_n 3, 1) := by decide +kernel
theorem dX10_grows_111 : decode cX10_grows 111 = .ok (.i2l, 1) := by decide +kernel
theorem dX10_grows_112 : decode cX10_grows 112 = .ok (.invokevirtual 18, 3) := by decide +kernel
theorem dX10_grows_115 : decode cX10_grows 115 = .ok (.iload_n 2, 1) := by decide +kernel
theorem dX10_grows_116 : decode cX10_grows 116 = .ok (.ireturn, 1) := by decide +kernel
theorem dX10_reign_0 : decode cX10_reign 0 = .ok (.aload_n 0, 1) := by decide +kernel
theorem dX10_reign_1 : decode cX10_reign 1 = .ok (.iconst 0, 1) := by decide +kernel
theorem dX10_reign_2 : decode cX10_reign 2 = .ok (.putfield 3, 3) := by decide +kernel
theorem dX10_reign_5 : decode cX10_reign 5 = .ok (.iload_n 1, 1) := by decide +kernel
theorem dX10_reign_6 : decode cX10_reign 6 = .ok (.i2l, 1) := by decide +kernel
theorem dX10_reign_7 : decode cX10_reign 7 = .ok (.lconst 1, 1) := by decide +kernel
theorem dX10_reign_8 : decode cX10_reign 8 = .ok (.ldc2_w 351, 3) := by decide +kernel
theorem dX10_reign_11 : decode cX10_reign 11 = .ok (.invokestatic 123, 3) := by decide +kernel
theorem dX10_reign_14 : decode cX10_reign 14 = .ok (.ifCond .eq 27, 3) := by decide +kernel
theorem dX10_reign_17 : decode cX10_reign 17 = .ok (.iload_n 2, 1) := by decide +kernel
theorem dX10_reign_18 : decode cX10_reign 18 = .ok (.i2l, 1) := by decide +kernel
theorem dX10_reign_19 : decode cX10_reign 19 = .ok (.lconst 1, 1) := by decide +kernel
theorem dX10_reign_20 : decode cX10_reign 20 = .ok (.ldc2_w 286, 3) := by decide +kernel
theorem dX10_reign_23 : decode cX10_reign 23 = .ok (.invokestatic 123, 3) := by decide +kernel
theorem dX10_reign_26 : decode cX10_reign 26 = .ok (.ifCond .eq 15, 3) := by decide +kernel
theorem dX10_reign_29 : decode cX10_reign 29 = .ok (.iload_n 3, 1) := by decide +kernel
theorem dX10_reign_30 : decode cX10_reign 30 = .ok (.i2l, 1) := by decide +kernel
theorem dX10_reign_31 : decode cX10_reign 31 = .ok (.lconst 0, 1) := by decide +kernel
theorem dX10_reign_32 : decode cX10_reign 32 = .ok (.ldc2_w 364, 3) := by decide +kernel
theorem dX10_reign_35 : decode cX10_reign 35 = .ok (.invokestatic 123, 3) := by decide +kernel
theorem dX10_reign_38 : decode cX10_reign 38 = .ok (.ifCond .ne 5, 3) := by decide +kernel
theorem dX10_reign_41 : decode cX10_reign 41 = .ok (.iconst (-1), 1) := by decide +kernel
theorem dX10_reign_42 : decode cX10_reign 42 = .ok (.ireturn, 1) := by decide +kernel
theorem dX10_reign_43 : decode cX10_reign 43 = .ok (.iconst (-1), 1) := by decide +kernel
theorem dX10_reign_44 : decode cX10_reign 44 = .ok (.istore 4, 2) := by decide +kernel
theorem dX10_reign_46 : decode cX10_reign 46 = .ok (.iconst (-1), 1) := by decide +kernel
theorem dX10_reign_47 : decode cX10_reign 47 = .ok (.istore 5, 2) := by decide +kernel
theorem dX10_reign_49 : decode cX10_reign 49 = .ok (.iconst 0, 1) := by decide +kernel
theorem dX10_reign_50 : decode cX10_reign 50 = .ok (.istore 6, 2) := by decide +kernel
theorem dX10_reign_52 : decode cX10_reign 52 = .ok (.iload 6, 2) := by decide +kernel
theorem dX10_reign_54 : decode cX10_reign 54 = .ok (.iconst 1, 1) := by decide +kernel
theorem dX10_reign_55 : decode cX10_reign 55 = .ok (.iload_n 1, 1) := by decide +kernel
theorem dX10_reign_56 : decode cX10_reign 56 = .ok (.ishl, 1) := by decide +kernel
theorem dX10_reign_57 : decode cX10_reign 57 = .ok (.if_icmp .ge 152, 3) := by decide +kernel
theorem dX10_reign_60 : decode cX10_reign 60 = .ok (.aload_n 0, 1) := by decide +kernel
theorem dX10_reign_61 : decode cX10_reign 61 = .ok (.getfield 120, 3) := by decide +kernel
theorem dX10_reign_64 : decode cX10_reign 64 = .ok (.ifCond .le 145, 3) := by decide +kernel
theorem dX10_reign_67 : decode cX10_reign 67 = .ok (.aload_n 0, 1) := by decide +kernel
theorem dX10_reign_68 : decode cX10_reign 68 = .ok (.invokevirtual 332, 3) := by decide +kernel
theorem dX10_reign_71 : decode cX10_reign 71 = .ok (.iconst 0, 1) := by decide +kernel
theorem dX10_reign_72 : decode cX10_reign 72 = .ok (.istore 7, 2) := by decide +kernel
theorem dX10_reign_74 : decode cX10_reign 74 = .ok (.iload 7, 2) := by decide +kernel
theorem dX10_reign_76 : decode cX10_reign 76 = .ok (.iload_n 1, 1) := by decide +kernel
theorem dX10_reign_77 : decode cX10_reign 77 = .ok (.if_icmp .ge 38, 3) := by decide +kernel
theorem dX10_reign_80 : decode cX10_reign 80 = .ok (.aload_n 0, 1) := by decide +kernel
theorem dX10_reign_81 : decode cX10_reign 81 = .ok (.aload_n 0, 1) := by decide +kernel
theorem dX10_reign_82 : decode cX10_reign 82 = .ok (.getfield 44, 3) := by decide +kernel
theorem dX10_reign_85 : decode cX10_reign 85 = .ok (.invokevirtual 274, 3) := by decide +kernel
theorem dX10_reign_88 : decode cX10_reign 88 = .ok (.iload 6, 2) := by decide +kernel
theorem dX10_reign_90 : decode cX10_reign 90 = .ok (.iload 7, 2) := by decide +kernel
theorem dX10_reign_92 : decode cX10_reign 92 = .ok (.invokestatic 359, 3) := by decide +kernel
theorem dX10_reign_95 : decode cX10_reign 95 = .ok (.ifCond .eq 14, 3) := by decide +kernel
theorem dX10_reign_98 : decode cX10_reign 98 = .ok (.aload_n 0, 1) := by decide +kernel
theorem dX10_reign_99 : decode cX10_reign 99 = .ok (.aload_n 0, 1) := by decide +kernel
theorem dX10_reign_100 : decode cX10_reign 100 = .ok (.getfield 44, 3) := by decide +kernel
theorem dX10_reign_103 : decode cX10_reign 103 = .ok (.iconst 0, 1) := by decide +kernel
theorem dX10_reign_104 : decode cX10_reign 104 = .ok (.iload_n 2, 1) := by decide +kernel
theorem dX10_reign_105 : decode cX10_reign 105 = .ok (.invokevirtual 306, 3) := by decide +kernel
theorem dX10_reign_108 : decode cX10_reign 108 = .ok (.pop, 1) := by decide +kernel
theorem dX10_reign_109 : decode cX10_reign 109 = .ok (.iinc 7 1, 3) := by decide +kernel
theorem dX10_reign_112 : decode cX10_reign 112 = .ok (.goto (-38), 3) := by decide +kernel
theorem dX10_reign_115 : decode cX10_reign 115 = .ok (.aload_n 0, 1) := by decide +kernel
theorem dX10_reign_116 : decode cX10_reign 116 = .ok (.aload_n 0, 1) := by decide +kernel
theorem dX10_reign_117 : decode cX10_reign 117 = .ok (.getfield 44, 3) := by decide +kernel
theorem dX10_reign_120 : decode cX10_reign 120 = .ok (.iconst 0, 1) := by decide +kernel
theorem dX10_reign_121 : decode cX10_reign 121 = .ok (.invokevirtual 262, 3) := by decide +kernel
theorem dX10_reign_124 : decode cX10_reign 124 = .ok (.iload_n 3, 1) := by decide +kernel
theorem dX10_reign_125 : decode cX10_reign 125 = .ok (.if_icmp .lt 13, 3) := by decide +kernel
theorem dX10_reign_128 : decode cX10_reign 128 = .ok (.aload_n 0, 1) := by decide +kernel
theorem dX10_reign_129 : decode cX10_reign 129 = .ok (.getfield 44, 3) := by decide +kernel
theorem dX10_reign_132 : decode cX10_reign 132 = .ok (.bipush 26, 2) := by decide +kernel
theorem dX10_reign_134 : decode cX10_reign 134 = .ok (.iaload, 1) := by decide +kernel
theorem dX10_reign_135 : decode cX10_reign 135 = .ok (.goto 4, 3) := by decide +kernel
theorem dX10_reign_138 : decode cX10_reign 138 = .ok (.iconst (-1), 1) := by decide +kernel
theorem dX10_reign_139 : decode cX10_reign 139 = .ok (.istore 7, 2) := by decide +kernel
theorem dX10_reign_141 : decode cX10_reign 141 = .ok (.iload 7, 2) := by decide +kernel
theorem dX10_reign_143 : decode cX10_reign 143 = .ok (.iload 5, 2) := by decide +kernel
theorem dX10_reign_145 : decode cX10_reign 145 = .ok (.if_icmp .gt 28, 3) := by decide +kernel
theorem dX10_reign_148 : decode cX10_reign 148 = .ok (.iload 7, 2) := by decide +kernel
theorem dX10_reign_150 : decode cX10_reign 150 = .ok (.ifCond .lt 27, 3) := by decide +kernel
theorem dX10_reign_153 : decode cX10_reign 153 = .ok (.iload 7, 2) := by decide +kernel
theorem dX10_reign_155 : decode cX10_reign 155 = .ok (.iload 5, 2) := by decide +kernel
theorem dX10_reign_157 : decode cX10_reign 157 = .ok (.if_icmp .ne 20, 3) := by decide +kernel
theorem dX10_reign_160 : decode cX10_reign 160 = .ok (.iload 6, 2) := by decide +kernel
theorem dX10_reign_162 : decode cX10_reign 162 = .ok (.invokestatic 354, 3) := by decide +kernel
theorem dX10_reign_165 : decode cX10_reign 165 = .ok (.iload 4, 2) := by decide +kernel
theorem dX10_reign_167 : decode cX10_reign 167 = .ok (.invokestatic 354, 3) := by decide +kernel
theorem dX10_reign_170 : decode cX10_reign 170 = .ok (.if_icmp .ge 7, 3) := by decide +kernel
theorem dX10_reign_173 : decode cX10_reign 173 = .ok (.iconst 1, 1) := by decide +kernel
theorem dX10_reign_174 : decode cX10_reign 174 = .ok (.goto 4, 3) := by decide +kernel
theorem dX10_reign_177 : decode cX10_reign 177 = .ok (.iconst 0, 1) := by decide +kernel
theorem dX10_reign_178 : decode cX10_reign 178 = .ok (.istore 8, 2) := by decide +kernel
theorem dX10_reign_180 : decode cX10_reign 180 = .ok (.iload 8, 2) := by decide +kernel
theorem dX10_reign_182 : decode cX10_reign 182 = .ok (.ifCond .eq 8, 3) := by decide +kernel
theorem dX10_reign_185 : decode cX10_reign 185 = .ok (.iload 6, 2) := by decide +kernel
theorem dX10_reign_187 : decode cX10_reign 187 = .ok (.goto 5, 3) := by decide +kernel
theorem dX10_reign_190 : decode cX10_reign 190 = .ok (.iload 4, 2) := by decide +kernel
theorem dX10_reign_192 : decode cX10_reign 192 = .ok (.istore 4, 2) := by decide +kernel
theorem dX10_reign_194 : decode cX10_reign 194 = .ok (.iload 5, 2) := by decide +kernel
theorem dX10_reign_196 : decode cX10_reign 196 = .ok (.iload 7, 2) := by decide +kernel
theorem dX10_reign_198 : decode cX10_reign 198 = .ok (.invokestatic 245, 3) := by decide +kernel
theorem dX10_reign_201 : decode cX10_reign 201 = .ok (.istore 5, 2) := by decide +kernel
theorem dX10_reign_203 : decode cX10_reign 203 = .ok (.iinc 6 1, 3) := by decide +kernel
theorem dX10_reign_206 : decode cX10_reign 206 = .ok (.goto (-154), 3) := by decide +kernel
theorem dX10_reign_209 : decode cX10_reign 209 = .ok (.iload 4, 2) := by decide +kernel
theorem dX10_reign_211 : decode cX10_reign 211 = .ok (.ifCond .ge 6, 3) := by decide +kernel
theorem dX10_reign_214 : decode cX10_reign 214 = .ok (.bipush (-2), 2) := by decide +kernel
theorem dX10_reign_216 : decode cX10_reign 216 = .ok (.ireturn, 1) := by decide +kernel
theorem dX10_reign_217 : decode cX10_reign 217 = .ok (.aload_n 0, 1) := by decide +kernel
theorem dX10_reign_218 : decode cX10_reign 218 = .ok (.iconst 0, 1) := by decide +kernel
theorem dX10_reign_219 : decode cX10_reign 219 = .ok (.putfield 15, 3) := by decide +kernel
theorem dX10_reign_222 : decode cX10_reign 222 = .ok (.aload_n 0, 1) := by decide +kernel
theorem dX10_reign_223 : decode cX10_reign 223 = .ok (.iload 4, 2) := by decide +kernel
theorem dX10_reign_225 : decode cX10_reign 225 = .ok (.i2l, 1) := by decide +kernel
theorem dX10_reign_226 : decode cX10_reign 226 = .ok (.invokevirtual 18, 3) := by decide +kernel
theorem dX10_reign_229 : decode cX10_reign 229 = .ok (.iload 5, 2) := by decide +kernel
theorem dX10_reign_231 : decode cX10_reign 231 = .ok (.ireturn, 1) := by decide +kernel
theorem dX10_melts_0 : decode cX10_melts 0 = .ok (.aload_n 0, 1) := by decide +kernel
theorem dX10_melts_1 : decode cX10_melts 1 = .ok (.iconst 0, 1) := by decide +kernel
theorem dX10_melts_2 : decode cX10_melts 2 = .ok (.putfield 3, 3) := by decide +kernel
theorem dX10_melts_5 : decode cX10_melts 5 = .ok (.aload_n 0, 1) := by decide +kernel
theorem dX10_melts_6 : decode cX10_melts 6 = .ok (.iload_n 1, 1) := by decide +kernel
theorem dX10_melts_7 : decode cX10_melts 7 = .ok (.invokevirtual 254, 3) := by decide +kernel
theorem dX10_melts_10 : decode cX10_melts 10 = .ok (.ifCond .eq 27, 3) := by decide +kernel
theorem dX10_melts_13 : decode cX10_melts 13 = .ok (.iload_n 2, 1) := by decide +kernel
theorem dX10_melts_14 : decode cX10_melts 14 = .ok (.i2l, 1) := by decide +kernel
theorem dX10_melts_15 : decode cX10_melts 15 = .ok (.lconst 0, 1) := by decide +kernel
theorem dX10_melts_16 : decode cX10_melts 16 = .ok (.ldc2_w 278, 3) := by decide +kernel
theorem dX10_melts_19 : decode cX10_melts 19 = .ok (.invokestatic 123, 3) := by decide +kernel
theorem dX10_melts_22 : decode cX10_melts 22 = .ok (.ifCond .eq 15, 3) := by decide +kernel
theorem dX10_melts_25 : decode cX10_melts 25 = .ok (.iload_n 3, 1) := by decide +kernel
theorem dX10_melts_26 : decode cX10_melts 26 = .ok (.i2l, 1) := by decide +kernel
theorem dX10_melts_27 : decode cX10_melts 27 = .ok (.lconst 1, 1) := by decide +kernel
theorem dX10_melts_28 : decode cX10_melts 28 = .ok (.ldc2_w 330, 3) := by decide +kernel
theorem dX10_melts_31 : decode cX10_melts 31 = .ok (.invokestatic 123, 3) := by decide +kernel
theorem dX10_melts_34 : decode cX10_melts 34 = .ok (.ifCond .ne 5, 3) := by decide +kernel
theorem dX10_melts_37 : decode cX10_melts 37 = .ok (.iconst (-1), 1) := by decide +kernel
theorem dX10_melts_38 : decode cX10_melts 38 = .ok (.ireturn, 1) := by decide +kernel
theorem dX10_melts_39 : decode cX10_melts 39 = .ok (.aload_n 0, 1) := by decide +kernel
theorem dX10_melts_40 : decode cX10_melts 40 = .ok (.invokevirtual 332, 3) := by decide +kernel
theorem dX10_melts_43 : decode cX10_melts 43 = .ok (.iconst 0, 1) := by decide +kernel
theorem dX10_melts_44 : decode cX10_melts 44 = .ok (.istore 4, 2) := by decide +kernel
theorem dX10_melts_46 : decode cX10_melts 46 = .ok (.iload 4, 2) := by decide +kernel
theorem dX10_melts_48 : decode cX10_melts 48 = .ok (.bipush 99, 2) := by decide +kernel
theorem dX10_melts_50 : decode cX10_melts 50 = .ok (.if_icmp .gt 53, 3) := by decide +kernel
theorem dX10_melts_53 : decode cX10_melts 53 = .ok (.iload_n 2, 1) := by decide +kernel
theorem dX10_melts_54 : decode cX10_melts 54 = .ok (.aload_n 0, 1) := by decide +kernel
theorem dX10_melts_55 : decode cX10_melts 55 = .ok (.aload_n 0, 1) := by decide +kernel
theorem dX10_melts_56 : decode cX10_melts 56 = .ok (.getfield 44, 3) := by decide +kernel
theorem dX10_melts_59 : decode cX10_melts 59 = .ok (.iload_n 1, 1) := by decide +kernel
theorem dX10_melts_60 : decode cX10_melts 60 = .ok (.invokevirtual 262, 3) := by decide +kernel
theorem dX10_melts_63 : decode cX10_melts 63 = .ok (.invokestatic 338, 3) := by decide +kernel
theorem dX10_melts_66 : decode cX10_melts 66 = .ok (.istore 5, 2) := by decide +kernel
theorem dX10_melts_68 : decode cX10_melts 68 = .ok (.iload 5, 2) := by decide +kernel
theorem dX10_melts_70 : decode cX10_melts 70 = .ok (.iload_n 3, 1) := by decide +kernel
theorem dX10_melts_71 : decode cX10_melts 71 = .ok (.if_icmp .ge 18, 3) := by decide +kernel
theorem dX10_melts_74 : decode cX10_melts 74 = .ok (.aload_n 0, 1) := by decide +kernel
theorem dX10_melts_75 : decode cX10_melts 75 = .ok (.iconst 0, 1) := by decide +kernel
theorem dX10_melts_76 : decode cX10_melts 76 = .ok (.putfield 15, 3) := by decide +kernel
theorem dX10_melts_79 : decode cX10_melts 79 = .ok (.aload_n 0, 1) := by decide +kernel
theorem dX10_melts_80 : decode cX10_melts 80 = .ok (.iload 5, 2) := by decide +kernel
theorem dX10_melts_82 : decode cX10_melts 82 = .ok (.i2l, 1) := by decide +kernel
theorem dX10_melts_83 : decode cX10_melts 83 = .ok (.invokevirtual 18, 3) := by decide +kernel
theorem dX10_melts_86 : decode cX10_melts 86 = .ok (.iload 4, 2) := by decide +kernel
theorem dX10_melts_88 : decode cX10_melts 88 = .ok (.ireturn, 1) := by decide +kernel
theorem dX10_melts_89 : decode cX10_melts 89 = .ok (.aload_n 0, 1) := by decide +kernel
theorem dX10_melts_90 : decode cX10_melts 90 = .ok (.aload_n 0, 1) := by decide +kernel
theorem dX10_melts_91 : decode cX10_melts 91 = .ok (.getfield 44, 3) := by decide +kernel
theorem dX10_melts_94 : decode cX10_melts 94 = .ok (.invokevirtual 274, 3) := by decide +kernel
theorem dX10_melts_97 : decode cX10_melts 97 = .ok (.iinc 4 1, 3) := by decide +kernel
theorem dX10_melts_100 : decode cX10_melts 100 = .ok (.goto (-54), 3) := by decide +kernel
theorem dX10_melts_103 : decode cX10_melts 103 = .ok (.bipush (-2), 2) := by decide +kernel
theorem dX10_melts_105 : decode cX10_melts 105 = .ok (.ireturn, 1) := by decide +kernel
theorem dX10_when_0 : decode cX10_when 0 = .ok (.aload_n 0, 1) := by decide +kernel
theorem dX10_when_1 : decode cX10_when 1 = .ok (.iconst 0, 1) := by decide +kernel
theorem dX10_when_2 : decode cX10_when 2 = .ok (.putfield 3, 3) := by decide +kernel
theorem dX10_when_5 : decode cX10_when 5 = .ok (.aload_n 0, 1) := by decide +kernel
theorem dX10_when_6 : decode cX10_when 6 = .ok (.iload_n 1, 1) := by decide +kernel
theorem dX10_when_7 : decode cX10_when 7 = .ok (.invokevirtual 254, 3) := by decide +kernel
theorem dX10_when_10 : decode cX10_when 10 = .ok (.ifCond .eq 15, 3) := by decide +kernel
theorem dX10_when_13 : decode cX10_when 13 = .ok (.iload_n 2, 1) := by decide +kernel
theorem dX10_when_14 : decode cX10_when 14 = .ok (.i2l, 1) := by decide +kernel
theorem dX10_when_15 : decode cX10_when 15 = .ok (.lconst 0, 1) := by decide +kernel
theorem dX10_when_16 : decode cX10_when 16 = .ok (.ldc2_w 289, 3) := by decide +kernel
theorem dX10_when_19 : decode cX10_when 19 = .ok (.invokestatic 123, 3) := by decide +kernel
theorem dX10_when_22 : decode cX10_when 22 = .ok (.ifCond .ne 5, 3) := by decide +kernel
theorem dX10_when_25 : decode cX10_when 25 = .ok (.iconst (-1), 1) := by decide +kernel
theorem dX10_when_26 : decode cX10_when 26 = .ok (.ireturn, 1) := by decide +kernel
theorem dX10_when_27 : decode cX10_when 27 = .ok (.iconst 2, 1) := by decide +kernel
theorem dX10_when_28 : decode cX10_when 28 = .ok (.aload_n 0, 1) := by decide +kernel
theorem dX10_when_29 : decode cX10_when 29 = .ok (.getfield 41, 3) := by decide +kernel
theorem dX10_when_32 : decode cX10_when 32 = .ok (.bipush 12, 2) := by decide +kernel
theorem dX10_when_34 : decode cX10_when 34 = .ok (.iconst 0, 1) := by decide +kernel
theorem dX10_when_35 : decode cX10_when 35 = .ok (.iload_n 1, 1) := by decide +kernel
theorem dX10_when_36 : decode cX10_when 36 = .ok (.invokestatic 248, 3) := by decide +kernel
theorem dX10_when_39 : decode cX10_when 39 = .ok (.iadd, 1) := by decide +kernel
theorem dX10_when_40 : decode cX10_when 40 = .ok (.iaload, 1) := by decide +kernel
theorem dX10_when_41 : decode cX10_when 41 = .ok (.imul, 1) := by decide +kernel
theorem dX10_when_42 : decode cX10_when 42 = .ok (.aload_n 0, 1) := by decide +kernel
theorem dX10_when_43 : decode cX10_when 43 = .ok (.getfield 41, 3) := by decide +kernel
theorem dX10_when_46 : decode cX10_when 46 = .ok (.bipush 12, 2) := by decide +kernel
theorem dX10_when_48 : decode cX10_when 48 = .ok (.iconst 1, 1) := by decide +kernel
theorem dX10_when_49 : decode cX10_when 49 = .ok (.iload_n 1, 1) := by decide +kernel
theorem dX10_when_50 : decode cX10_when 50 = .ok (.invokestatic 248, 3) := by decide +kernel
theorem dX10_when_53 : decode cX10_when 53 = .ok (.iadd, 1) := by decide +kernel
theorem dX10_when_54 : decode cX10_when 54 = .ok (.iaload, 1) := by decide +kernel
theorem dX10_when_55 : decode cX10_when 55 = .ok (.iadd, 1) := by decide +kernel
theorem dX10_when_56 : decode cX10_when 56 = .ok (.istore_n 3, 1) := by decide +kernel
theorem dX10_when_57 : decode cX10_when 57 = .ok (.iconst 0, 1) := by decide +kernel
theorem dX10_when_58 : decode cX10_when 58 = .ok (.istore 4, 2) := by decide +kernel
theorem dX10_when_60 : decode cX10_when 60 = .ok (.iconst (-1), 1) := by decide +kernel
theorem dX10_when_61 : decode cX10_when 61 = .ok (.istore 5, 2) := by decide +kernel
theorem dX10_when_63 : decode cX10_when 63 = .ok (.aload_n 0, 1) := by decide +kernel
theorem dX10_when_64 : decode cX10_when 64 = .ok (.invokevirtual 332, 3) := by decide +kernel
theorem dX10_when_67 : decode cX10_when 67 = .ok (.iconst 0, 1) := by decide +kernel
theorem dX10_when_68 : decode cX10_when 68 = .ok (.istore 6, 2) := by decide +kernel
theorem dX10_when_70 : decode cX10_when 70 = .ok (.iload 6, 2) := by decide +kernel
theorem dX10_when_72 : decode cX10_when 72 = .ok (.iload_n 2, 1) := by decide +kernel
theorem dX10_when_73 : decode cX10_when 73 = .ok (.if_icmp .gt 57, 3) := by decide +kernel
theorem dX10_when_76 : decode cX10_when 76 = .ok (.iload_n 3, 1) := by decide +kernel
theorem dX10_when_77 : decode cX10_when 77 = .ok (.aload_n 0, 1) := by decide +kernel
theorem dX10_when_78 : decode cX10_when 78 = .ok (.aload_n 0, 1) := by decide +kernel
theorem dX10_when_79 : decode cX10_when 79 = .ok (.getfield 44, 3) := by decide +kernel
theorem dX10_when_82 : decode cX10_when 82 = .ok (.iload_n 1, 1) := by decide +kernel
theorem dX10_when_83 : decode cX10_when 83 = .ok (.invokevirtual 262, 3) := by decide +kernel
theorem dX10_when_86 : decode cX10_when 86 = .ok (.invokestatic 338, 3) := by decide +kernel
theorem dX10_when_89 : decode cX10_when 89 = .ok (.istore 7, 2) := by decide +kernel
theorem dX10_when_91 : decode cX10_when 91 = .ok (.iload 7, 2) := by decide +kernel
theorem dX10_when_93 : decode cX10_when 93 = .ok (.iload 5, 2) := by decide +kernel
theorem dX10_when_95 : decode cX10_when 95 = .ok (.if_icmp .le 8, 3) := by decide +kernel
theorem dX10_when_98 : decode cX10_when 98 = .ok (.iload 6, 2) := by decide +kernel
theorem dX10_when_100 : decode cX10_when 100 = .ok (.goto 5, 3) := by decide +kernel
theorem dX10_when_103 : decode cX10_when 103 = .ok (.iload 4, 2) := by decide +kernel
theorem dX10_when_105 : decode cX10_when 105 = .ok (.istore 4, 2) := by decide +kernel
theorem dX10_when_107 : decode cX10_when 107 = .ok (.iload 5, 2) := by decide +kernel
theorem dX10_when_109 : decode cX10_when 109 = .ok (.iload 7, 2) := by decide +kernel
theorem dX10_when_111 : decode cX10_when 111 = .ok (.invokestatic 245, 3) := by decide +kernel
theorem dX10_when_114 : decode cX10_when 114 = .ok (.istore 5, 2) := by decide +kernel
theorem dX10_when_116 : decode cX10_when 116 = .ok (.aload_n 0, 1) := by decide +kernel
theorem dX10_when_117 : decode cX10_when 117 = .ok (.aload_n 0, 1) := by decide +kernel
theorem dX10_when_118 : decode cX10_when 118 = .ok (.getfield 44, 3) := by decide +kernel
theorem dX10_when_121 : decode cX10_when 121 = .ok (.invokevirtual 274, 3) := by decide +kernel
theorem dX10_when_124 : decode cX10_when 124 = .ok (.iinc 6 1, 3) := by decide +kernel
theorem dX10_when_127 : decode cX10_when 127 = .ok (.goto (-57), 3) := by decide +kernel
theorem dX10_when_130 : decode cX10_when 130 = .ok (.aload_n 0, 1) := by decide +kernel
theorem dX10_when_131 : decode cX10_when 131 = .ok (.iconst 0, 1) := by decide +kernel
theorem dX10_when_132 : decode cX10_when 132 = .ok (.putfield 15, 3) := by decide +kernel
theorem dX10_when_135 : decode cX10_when 135 = .ok (.aload_n 0, 1) := by decide +kernel
theorem dX10_when_136 : decode cX10_when 136 = .ok (.iload 5, 2) := by decide +kernel
theorem dX10_when_138 : decode cX10_when 138 = .ok (.i2l, 1) := by decide +kernel
theorem dX10_when_139 : decode cX10_when 139 = .ok (.invokevirtual 18, 3) := by decide +kernel
theorem dX10_when_142 : decode cX10_when 142 = .ok (.iload 4, 2) := by decide +kernel
theorem dX10_when_144 : decode cX10_when 144 = .ok (.ireturn, 1) := by decide +kernel
theorem dX10_rises_0 : decode cX10_rises 0 = .ok (.aload_n 0, 1) := by decide +kernel
theorem dX10_rises_1 : decode cX10_rises 1 = .ok (.iconst 0, 1) := by decide +kernel
theorem dX10_rises_2 : decode cX10_rises 2 = .ok (.putfield 3, 3) := by decide +kernel
theorem dX10_rises_5 : decode cX10_rises 5 = .ok (.iload_n 1, 1) := by decide +kernel
theorem dX10_rises_6 : decode cX10_rises 6 = .ok (.i2l, 1) := by decide +kernel
theorem dX10_rises_7 : decode cX10_rises 7 = .ok (.lconst 1, 1) := by decide +kernel
theorem dX10_rises_8 : decode cX10_rises 8 = .ok (.ldc2_w 289, 3) := by decide +kernel
theorem dX10_rises_11 : decode cX10_rises 11 = .ok (.invokestatic 123, 3) := by decide +kernel
theorem dX10_rises_14 : decode cX10_rises 14 = .ok (.ifCond .ne 5, 3) := by decide +kernel
theorem dX10_rises_17 : decode cX10_rises 17 = .ok (.iconst (-1), 1) := by decide +kernel
theorem dX10_rises_18 : decode cX10_rises 18 = .ok (.ireturn, 1) := by decide +kernel
theorem dX10_rises_19 : decode cX10_rises 19 = .ok (.aload_n 0, 1) := by decide +kernel
theorem dX10_rises_20 : decode cX10_rises 20 = .ok (.invokevirtual 332, 3) := by decide +kernel
theorem dX10_rises_23 : decode cX10_rises 23 = .ok (.aload_n 0, 1) := by decide +kernel
theorem dX10_rises_24 : decode cX10_rises 24 = .ok (.aload_n 0, 1) := by decide +kernel
theorem dX10_rises_25 : decode cX10_rises 25 = .ok (.getfield 44, 3) := by decide +kernel
theorem dX10_rises_28 : decode cX10_rises 28 = .ok (.iload_n 1, 1) := by decide +kernel
theorem dX10_rises_29 : decode cX10_rises 29 = .ok (.invokevirtual 294, 3) := by decide +kernel
theorem dX10_rises_32 : decode cX10_rises 32 = .ok (.iconst 0, 1) := by decide +kernel
theorem dX10_rises_33 : decode cX10_rises 33 = .ok (.istore_n 2, 1) := by decide +kernel
theorem dX10_rises_34 : decode cX10_rises 34 = .ok (.iconst 0, 1) := by decide +kernel
theorem dX10_rises_35 : decode cX10_rises 35 = .ok (.istore_n 3, 1) := by decide +kernel
theorem dX10_rises_36 : decode cX10_rises 36 = .ok (.iconst 0, 1) := by decide +kernel
theorem dX10_rises_37 : decode cX10_rises 37 = .ok (.istore 4, 2) := by decide +kernel
theorem dX10_rises_39 : decode cX10_rises 39 = .ok (.iload 4, 2) := by decide +kernel
theorem dX10_rises_41 : decode cX10_rises 41 = .ok (.aload_n 0, 1) := by decide +kernel
theorem dX10_rises_42 : decode cX10_rises 42 = .ok (.getfield 120, 3) := by decide +kernel
theorem dX10_rises_45 : decode cX10_rises 45 = .ok (.if_icmp .ge 77, 3) := by decide +kernel
theorem dX10_rises_48 : decode cX10_rises 48 = .ok (.iload_n 2, 1) := by decide +kernel
theorem dX10_rises_49 : decode cX10_rises 49 = .ok (.aload_n 0, 1) := by decide +kernel
theorem dX10_rises_50 : decode cX10_rises 50 = .ok (.aload_n 0, 1) := by decide +kernel
theorem dX10_rises_51 : decode cX10_rises 51 = .ok (.getfield 44, 3) := by decide +kernel
theorem dX10_rises_54 : decode cX10_rises 54 = .ok (.iload 4, 2) := by decide +kernel
theorem dX10_rises_56 : decode cX10_rises 56 = .ok (.invokevirtual 262, 3) := by decide +kernel
theorem dX10_rises_59 : decode cX10_rises 59 = .ok (.aload_n 0, 1) := by decide +kernel
theorem dX10_rises_60 : decode cX10_rises 60 = .ok (.aload_n 0, 1) := by decide +kernel
theorem dX10_rises_61 : decode cX10_rises 61 = .ok (.getfield 41, 3) := by decide +kernel
theorem dX10_rises_64 : decode cX10_rises 64 = .ok (.iload 4, 2) := by decide +kernel
theorem dX10_rises_66 : decode cX10_rises 66 = .ok (.invokevirtual 262, 3) := by decide +kernel
theorem dX10_rises_69 : decode cX10_rises 69 = .ok (.if_icmp .le 10, 3) := by decide +kernel
theorem dX10_rises_72 : decode cX10_rises 72 = .ok (.iconst 1, 1) := by decide +kernel
theorem dX10_rises_73 : decode cX10_rises 73 = .ok (.iload 4, 2) := by decide +kernel
theorem dX10_rises_75 : decode cX10_rises 75 = .ok (.ishl, 1) := by decide +kernel
theorem dX10_rises_76 : decode cX10_rises 76 = .ok (.goto 4, 3) := by decide +kernel
theorem dX10_rises_79 : decode cX10_rises 79 = .ok (.iconst 0, 1) := by decide +kernel
theorem dX10_rises_80 : decode cX10_rises 80 = .ok (.ior, 1) := by decide +kernel
theorem dX10_rises_81 : decode cX10_rises 81 = .ok (.istore_n 2, 1) := by decide +kernel
theorem dX10_rises_82 : decode cX10_rises 82 = .ok (.iload_n 3, 1) := by decide +kernel
theorem dX10_rises_83 : decode cX10_rises 83 = .ok (.aload_n 0, 1) := by decide +kernel
theorem dX10_rises_84 : decode cX10_rises 84 = .ok (.aload_n 0, 1) := by decide +kernel
theorem dX10_rises_85 : decode cX10_rises 85 = .ok (.getfield 44, 3) := by decide +kernel
theorem dX10_rises_88 : decode cX10_rises 88 = .ok (.iload 4, 2) := by decide +kernel
theorem dX10_rises_90 : decode cX10_rises 90 = .ok (.invokevirtual 262, 3) := by decide +kernel
theorem dX10_rises_93 : decode cX10_rises 93 = .ok (.aload_n 0, 1) := by decide +kernel
theorem dX10_rises_94 : decode cX10_rises 94 = .ok (.aload_n 0, 1) := by decide +kernel
theorem dX10_rises_95 : decode cX10_rises 95 = .ok (.getfield 41, 3) := by decide +kernel
theorem dX10_rises_98 : decode cX10_rises 98 = .ok (.iload 4, 2) := by decide +kernel
theorem dX10_rises_100 : decode cX10_rises 100 = .ok (.invokevirtual 262, 3) := by decide +kernel
theorem dX10_rises_103 : decode cX10_rises 103 = .ok (.if_icmp .ge 10, 3) := by decide +kernel
theorem dX10_rises_106 : decode cX10_rises 106 = .ok (.iconst 1, 1) := by decide +kernel
theorem dX10_rises_107 : decode cX10_rises 107 = .ok (.iload 4, 2) := by decide +kernel
theorem dX10_rises_109 : decode cX10_rises 109 = .ok (.ishl, 1) := by decide +kernel
theorem dX10_rises_110 : decode cX10_rises 110 = .ok (.goto 4, 3) := by decide +kernel
theorem dX10_rises_113 : decode cX10_rises 113 = .ok (.iconst 0, 1) := by decide +kernel
theorem dX10_rises_114 : decode cX10_rises 114 = .ok (.ior, 1) := by decide +kernel
theorem dX10_rises_115 : decode cX10_rises 115 = .ok (.istore_n 3, 1) := by decide +kernel
theorem dX10_rises_116 : decode cX10_rises 116 = .ok (.iinc 4 1, 3) := by decide +kernel
theorem dX10_rises_119 : decode cX10_rises 119 = .ok (.goto (-80), 3) := by decide +kernel
theorem dX10_rises_122 : decode cX10_rises 122 = .ok (.aload_n 0, 1) := by decide +kernel
theorem dX10_rises_123 : decode cX10_rises 123 = .ok (.iconst 0, 1) := by decide +kernel
theorem dX10_rises_124 : decode cX10_rises 124 = .ok (.putfield 15, 3) := by decide +kernel
theorem dX10_rises_127 : decode cX10_rises 127 = .ok (.aload_n 0, 1) := by decide +kernel
theorem dX10_rises_128 : decode cX10_rises 128 = .ok (.iload_n 3, 1) := by decide +kernel
theorem dX10_rises_129 : decode cX10_rises 129 = .ok (.i2l, 1) := by decide +kernel
theorem dX10_rises_130 : decode cX10_rises 130 = .ok (.invokevirtual 18, 3) := by decide +kernel
theorem dX10_rises_133 : decode cX10_rises 133 = .ok (.iload_n 2, 1) := by decide +kernel
theorem dX10_rises_134 : decode cX10_rises 134 = .ok (.ireturn, 1) := by decide +kernel
theorem dX10_travels_0 : decode cX10_travels 0 = .ok (.iload_n 1, 1) := by decide +kernel
theorem dX10_travels_1 : decode cX10_travels 1 = .ok (.aload_n 0, 1) := by decide +kernel
theorem dX10_travels_2 : decode cX10_travels 2 = .ok (.getfield 120, 3) := by decide +kernel
theorem dX10_travels_5 : decode cX10_travels 5 = .ok (.if_icmp .ne 50, 3) := by decide +kernel
theorem dX10_travels_8 : decode cX10_travels 8 = .ok (.lload_n 2, 1) := by decide +kernel
theorem dX10_travels_9 : decode cX10_travels 9 = .ok (.aload_n 0, 1) := by decide +kernel
theorem dX10_travels_10 : decode cX10_travels 10 = .ok (.getfield 366, 3) := by decide +kernel
theorem dX10_travels_13 : decode cX10_travels 13 = .ok (.lcmp, 1) := by decide +kernel
theorem dX10_travels_14 : decode cX10_travels 14 = .ok (.ifCond .le 40, 3) := by decide +kernel
theorem dX10_travels_17 : decode cX10_travels 17 = .ok (.aload_n 0, 1) := by decide +kernel
theorem dX10_travels_18 : decode cX10_travels 18 = .ok (.lload_n 2, 1) := by decide +kernel
theorem dX10_travels_19 : decode cX10_travels 19 = .ok (.putfield 366, 3) := by decide +kernel
theorem dX10_travels_22 : decode cX10_travels 22 = .ok (.iconst 0, 1) := by decide +kernel
theorem dX10_travels_23 : decode cX10_travels 23 = .ok (.istore 6, 2) := by decide +kernel
theorem dX10_travels_25 : decode cX10_travels 25 = .ok (.iload 6, 2) := by decide +kernel
theorem dX10_travels_27 : decode cX10_travels 27 = .ok (.aload_n 0, 1) := by decide +kernel
theorem dX10_travels_28 : decode cX10_travels 28 = .ok (.getfield 120, 3) := by decide +kernel
theorem dX10_travels_31 : decode cX10_travels 31 = .ok (.if_icmp .ge 23, 3) := by decide +kernel
theorem dX10_travels_34 : decode cX10_travels 34 = .ok (.aload_n 0, 1) := by decide +kernel
theorem dX10_travels_35 : decode cX10_travels 35 = .ok (.getfield 92, 3) := by decide +kernel
theorem dX10_travels_38 : decode cX10_travels 38 = .ok (.iload 6, 2) := by decide +kernel
theorem dX10_travels_40 : decode cX10_travels 40 = .ok (.aload_n 0, 1) := by decide +kernel
theorem dX10_travels_41 : decode cX10_travels 41 = .ok (.getfield 89, 3) := by decide +kernel
theorem dX10_travels_44 : decode cX10_travels 44 = .ok (.iload 6, 2) := by decide +kernel
theorem dX10_travels_46 : decode cX10_travels 46 = .ok (.iaload, 1) := by decide +kernel
theorem dX10_travels_47 : decode cX10_travels 47 = .ok (.iastore, 1) := by decide +kernel
theorem dX10_travels_48 : decode cX10_travels 48 = .ok (.iinc 6 1, 3) := by decide +kernel
theorem dX10_travels_51 : decode cX10_travels 51 = .ok (.goto (-26), 3) := by decide +kernel
theorem dX10_travels_54 : decode cX10_travels 54 = .ok (.return_, 1) := by decide +kernel
theorem dX10_travels_55 : decode cX10_travels 55 = .ok (.aload_n 0, 1) := by decide +kernel
theorem dX10_travels_56 : decode cX10_travels 56 = .ok (.getfield 86, 3) := by decide +kernel
theorem dX10_travels_59 : decode cX10_travels 59 = .ok (.iload_n 1, 1) := by decide +kernel
theorem dX10_travels_60 : decode cX10_travels 60 = .ok (.iaload, 1) := by decide +kernel
theorem dX10_travels_61 : decode cX10_travels 61 = .ok (.i2l, 1) := by decide +kernel
theorem dX10_travels_62 : decode cX10_travels 62 = .ok (.lstore 6, 2) := by decide +kernel
theorem dX10_travels_64 : decode cX10_travels 64 = .ok (.lload 6, 2) := by decide +kernel
theorem dX10_travels_66 : decode cX10_travels 66 = .ok (.lconst 0, 1) := by decide +kernel
theorem dX10_travels_67 : decode cX10_travels 67 = .ok (.lcmp, 1) := by decide +kernel
theorem dX10_travels_68 : decode cX10_travels 68 = .ok (.ifCond .ne 7, 3) := by decide +kernel
theorem dX10_travels_71 : decode cX10_travels 71 = .ok (.lconst 0, 1) := by decide +kernel
theorem dX10_travels_72 : decode cX10_travels 72 = .ok (.goto 7, 3) := by decide +kernel
theorem dX10_travels_75 : decode cX10_travels 75 = .ok (.lload_n 2, 1) := by decide +kernel
theorem dX10_travels_76 : decode cX10_travels 76 = .ok (.lload 6, 2) := by decide +kernel
theorem dX10_travels_78 : decode cX10_travels 78 = .ok (.ldiv, 1) := by decide +kernel
theorem dX10_travels_79 : decode cX10_travels 79 = .ok (.lstore 8, 2) := by decide +kernel
theorem dX10_travels_81 : decode cX10_travels 81 = .ok (.aload_n 0, 1) := by decide +kernel
theorem dX10_travels_82 : decode cX10_travels 82 = .ok (.getfield 89, 3) := by decide +kernel
theorem dX10_travels_85 : decode cX10_travels 85 = .ok (.iload_n 1, 1) := by decide +kernel
theorem dX10_travels_86 : decode cX10_travels 86 = .ok (.iconst 0, 1) := by decide +kernel
theorem dX10_travels_87 : decode cX10_travels 87 = .ok (.iastore, 1) := by decide +kernel
theorem dX10_travels_88 : decode cX10_travels 88 = .ok (.aload_n 0, 1) := by decide +kernel
theorem dX10_travels_89 : decode cX10_travels 89 = .ok (.iload_n 1, 1) := by decide +kernel
theorem dX10_travels_90 : decode cX10_travels 90 = .ok (.iconst 1, 1) := by decide +kernel
theorem dX10_travels_91 : decode cX10_travels 91 = .ok (.iadd, 1) := by decide +kernel
theorem dX10_travels_92 : decode cX10_travels 92 = .ok (.lload_n 2, 1) := by decide +kernel
theorem dX10_travels_93 : decode cX10_travels 93 = .ok (.lload 4, 2) := by decide +kernel
theorem dX10_travels_95 : decode cX10_travels 95 = .ok (.invokevirtual 370, 3) := by decide +kernel
theorem dX10_travels_98 : decode cX10_travels 98 = .ok (.aload_n 0, 1) := by decide +kernel
theorem dX10_travels_99 : decode cX10_travels 99 = .ok (.getfield 89, 3) := by decide +kernel
theorem dX10_travels_102 : decode cX10_travels 102 = .ok (.iload_n 1, 1) := by decide +kernel
theorem dX10_travels_103 : decode cX10_travels 103 = .ok (.iconst 1, 1) := by decide +kernel
theorem dX10_travels_104 : decode cX10_travels 104 = .ok (.iastore, 1) := by decide +kernel
theorem dX10_travels_105 : decode cX10_travels 105 = .ok (.aload_n 0, 1) := by decide +kernel
theorem dX10_travels_106 : decode cX10_travels 106 = .ok (.iload_n 1, 1) := by decide +kernel
theorem dX10_travels_107 : decode cX10_travels 107 = .ok (.iconst 1, 1) := by decide +kernel
theorem dX10_travels_108 : decode cX10_travels 108 = .ok (.iadd, 1) := by decide +kernel
theorem dX10_travels_109 : decode cX10_travels 109 = .ok (.ldc2_w 374, 3) := by decide +kernel
theorem dX10_travels_112 : decode cX10_travels 112 = .ok (.lload_n 2, 1) := by decide +kernel
theorem dX10_travels_113 : decode cX10_travels 113 = .ok (.lload 4, 2) := by decide +kernel
theorem dX10_travels_115 : decode cX10_travels 115 = .ok (.lload 6, 2) := by decide +kernel
theorem dX10_travels_117 : decode cX10_travels 117 = .ok (.lmul, 1) := by decide +kernel
theorem dX10_travels_118 : decode cX10_travels 118 = .ok (.ladd, 1) := by decide +kernel
theorem dX10_travels_119 : decode cX10_travels 119 = .ok (.invokestatic 376, 3) := by decide +kernel
theorem dX10_travels_122 : decode cX10_travels 122 = .ok (.lconst 0, 1) := by decide +kernel
theorem dX10_travels_123 : decode cX10_travels 123 = .ok (.invokevirtual 370, 3) := by decide +kernel
theorem dX10_travels_126 : decode cX10_travels 126 = .ok (.aload_n 0, 1) := by decide +kernel
theorem dX10_travels_127 : decode cX10_travels 127 = .ok (.getfield 89, 3) := by decide +kernel
theorem dX10_travels_130 : decode cX10_travels 130 = .ok (.iload_n 1, 1) := by decide +kernel
theorem dX10_travels_131 : decode cX10_travels 131 = .ok (.iconst 2, 1) := by decide +kernel
theorem dX10_travels_132 : decode cX10_travels 132 = .ok (.iastore, 1) := by decide +kernel
theorem dX10_travels_133 : decode cX10_travels 133 = .ok (.aload_n 0, 1) := by decide +kernel
theorem dX10_travels_134 : decode cX10_travels 134 = .ok (.iload_n 1, 1) := by decide +kernel
theorem dX10_travels_135 : decode cX10_travels 135 = .ok (.iconst 1, 1) := by decide +kernel
theorem dX10_travels_136 : decode cX10_travels 136 = .ok (.iadd, 1) := by decide +kernel
theorem dX10_travels_137 : decode cX10_travels 137 = .ok (.lload_n 2, 1) := by decide +kernel
theorem dX10_travels_138 : decode cX10_travels 138 = .ok (.lload 8, 2) := by decide +kernel
theorem dX10_travels_140 : decode cX10_travels 140 = .ok (.lload 6, 2) := by decide +kernel
theorem dX10_travels_142 : decode cX10_travels 142 = .ok (.lmul, 1) := by decide +kernel
theorem dX10_travels_143 : decode cX10_travels 143 = .ok (.lsub, 1) := by decide +kernel
theorem dX10_travels_144 : decode cX10_travels 144 = .ok (.lload 4, 2) := by decide +kernel
theorem dX10_travels_146 : decode cX10_travels 146 = .ok (.lload 8, 2) := by decide +kernel
theorem dX10_travels_148 : decode cX10_travels 148 = .ok (.ladd, 1) := by decide +kernel
theorem dX10_travels_149 : decode cX10_travels 149 = .ok (.invokevirtual 370, 3) := by decide +kernel
theorem dX10_travels_152 : decode cX10_travels 152 = .ok (.return_, 1) := by decide +kernel
theorem dX10_caravan_0 : decode cX10_caravan 0 = .ok (.aload_n 0, 1) := by decide +kernel
theorem dX10_caravan_1 : decode cX10_caravan 1 = .ok (.iconst 0, 1) := by decide +kernel
theorem dX10_caravan_2 : decode cX10_caravan 2 = .ok (.putfield 3, 3) := by decide +kernel
theorem dX10_caravan_5 : decode cX10_caravan 5 = .ok (.iload_n 1, 1) := by decide +kernel
theorem dX10_caravan_6 : decode cX10_caravan 6 = .ok (.invokestatic 283, 3) := by decide +kernel
theorem dX10_caravan_9 : decode cX10_caravan 9 = .ok (.ifCond .ne 5, 3) := by decide +kernel
theorem dX10_caravan_12 : decode cX10_caravan 12 = .ok (.iconst (-1), 1) := by decide +kernel
theorem dX10_caravan_13 : decode cX10_caravan 13 = .ok (.ireturn, 1) := by decide +kernel
theorem dX10_caravan_14 : decode cX10_caravan 14 = .ok (.aload_n 0, 1) := by decide +kernel
theorem dX10_caravan_15 : decode cX10_caravan 15 = .ok (.getfield 120, 3) := by decide +kernel
theorem dX10_caravan_18 : decode cX10_caravan 18 = .ok (.ifCond .ne 6, 3) := by decide +kernel
theorem dX10_caravan_21 : decode cX10_caravan 21 = .ok (.bipush (-2), 2) := by decide +kernel
theorem dX10_caravan_23 : decode cX10_caravan 23 = .ok (.ireturn, 1) := by decide +kernel
theorem dX10_caravan_24 : decode cX10_caravan 24 = .ok (.aload_n 0, 1) := by decide +kernel
theorem dX10_caravan_25 : decode cX10_caravan 25 = .ok (.invokevirtual 332, 3) := by decide +kernel
theorem dX10_caravan_28 : decode cX10_caravan 28 = .ok (.iconst 0, 1) := by decide +kernel
theorem dX10_caravan_29 : decode cX10_caravan 29 = .ok (.istore_n 2, 1) := by decide +kernel
theorem dX10_caravan_30 : decode cX10_caravan 30 = .ok (.iload_n 2, 1) := by decide +kernel
theorem dX10_caravan_31 : decode cX10_caravan 31 = .ok (.aload_n 0, 1) := by decide +kernel
theorem dX10_caravan_32 : decode cX10_caravan 32 = .ok (.getfield 120, 3) := by decide +kernel
theorem dX10_caravan_35 : decode cX10_caravan 35 = .ok (.if_icmp .ge 32, 3) := by decide +kernel
theorem dX10_caravan_38 : decode cX10_caravan 38 = .ok (.aload_n 0, 1) := by decide +kernel
theorem dX10_caravan_39 : decode cX10_caravan 39 = .ok (.getfield 86, 3) := by decide +kernel
theorem dX10_caravan_42 : decode cX10_caravan 42 = .ok (.iload_n 2, 1) := by decide +kernel
theorem dX10_caravan_43 : decode cX10_caravan 43 = .ok (.aload_n 0, 1) := by decide +kernel
theorem dX10_caravan_44 : decode cX10_caravan 44 = .ok (.aload_n 0, 1) := by decide +kernel
theorem dX10_caravan_45 : decode cX10_caravan 45 = .ok (.getfield 44, 3) := by decide +kernel
theorem dX10_caravan_48 : decode cX10_caravan 48 = .ok (.iload_n 2, 1) := by decide +kernel
theorem dX10_caravan_49 : decode cX10_caravan 49 = .ok (.invokevirtual 262, 3) := by decide +kernel
theorem dX10_caravan_52 : decode cX10_caravan 52 = .ok (.iastore, 1) := by decide +kernel
theorem dX10_caravan_53 : decode cX10_caravan 53 = .ok (.aload_n 0, 1) := by decide +kernel
theorem dX10_caravan_54 : decode cX10_caravan 54 = .ok (.aload_n 0, 1) := by decide +kernel
theorem dX10_caravan_55 : decode cX10_caravan 55 = .ok (.getfield 44, 3) := by decide +kernel
theorem dX10_caravan_58 : decode cX10_caravan 58 = .ok (.invokevirtual 274, 3) := by decide +kernel
theorem dX10_caravan_61 : decode cX10_caravan 61 = .ok (.iinc 2 1, 3) := by decide +kernel
theorem dX10_caravan_64 : decode cX10_caravan 64 = .ok (.goto (-34), 3) := by decide +kernel
theorem dX10_caravan_67 : decode cX10_caravan 67 = .ok (.aload_n 0, 1) := by decide +kernel
theorem dX10_caravan_68 : decode cX10_caravan 68 = .ok (.ldc2_w 378, 3) := by decide +kernel
theorem dX10_caravan_71 : decode cX10_caravan 71 = .ok (.putfield 366, 3) := by decide +kernel
theorem dX10_caravan_74 : decode cX10_caravan 74 = .ok (.aload_n 0, 1) := by decide +kernel
theorem dX10_caravan_75 : decode cX10_caravan 75 = .ok (.iconst 0, 1) := by decide +kernel
theorem dX10_caravan_76 : decode cX10_caravan 76 = .ok (.iload_n 1, 1) := by decide +kernel
theorem dX10_caravan_77 : decode cX10_caravan 77 = .ok (.i2l, 1) := by decide +kernel
theorem dX10_caravan_78 : decode cX10_caravan 78 = .ok (.lconst 0, 1) := by decide +kernel
theorem dX10_caravan_79 : decode cX10_caravan 79 = .ok (.invokevirtual 370, 3) := by decide +kernel
theorem dX10_caravan_82 : decode cX10_caravan 82 = .ok (.aload_n 0, 1) := by decide +kernel
theorem dX10_caravan_83 : decode cX10_caravan 83 = .ok (.iconst 0, 1) := by decide +kernel
theorem dX10_caravan_84 : decode cX10_caravan 84 = .ok (.putfield 15, 3) := by decide +kernel
theorem dX10_caravan_87 : decode cX10_caravan 87 = .ok (.iconst 0, 1) := by decide +kernel
theorem dX10_caravan_88 : decode cX10_caravan 88 = .ok (.istore_n 2, 1) := by decide +kernel
theorem dX10_caravan_89 : decode cX10_caravan 89 = .ok (.iload_n 2, 1) := by decide +kernel
theorem dX10_caravan_90 : decode cX10_caravan 90 = .ok (.aload_n 0, 1) := by decide +kernel
theorem dX10_caravan_91 : decode cX10_caravan 91 = .ok (.getfield 120, 3) := by decide +kernel
theorem dX10_caravan_94 : decode cX10_caravan 94 = .ok (.if_icmp .ge 20, 3) := by decide +kernel
theorem dX10_caravan_97 : decode cX10_caravan 97 = .ok (.aload_n 0, 1) := by decide +kernel
theorem dX10_caravan_98 : decode cX10_caravan 98 = .ok (.aload_n 0, 1) := by decide +kernel
theorem dX10_caravan_99 : decode cX10_caravan 99 = .ok (.getfield 92, 3) := by decide +kernel
theorem dX10_caravan_102 : decode cX10_caravan 102 = .ok (.iload_n 2, 1) := by decide +kernel
theorem dX10_caravan_103 : decode cX10_caravan 103 = .ok (.iaload, 1) := by decide +kernel
theorem dX10_caravan_104 : decode cX10_caravan 104 = .ok (.i2l, 1) := by decide +kernel
theorem dX10_caravan_105 : decode cX10_caravan 105 = .ok (.invokevirtual 18, 3) := by decide +kernel
theorem dX10_caravan_108 : decode cX10_caravan 108 = .ok (.iinc 2 1, 3) := by decide +kernel
theorem dX10_caravan_111 : decode cX10_caravan 111 = .ok (.goto (-22), 3) := by decide +kernel
theorem dX10_caravan_114 : decode cX10_caravan 114 = .ok (.aload_n 0, 1) := by decide +kernel
theorem dX10_caravan_115 : decode cX10_caravan 115 = .ok (.getfield 366, 3) := by decide +kernel
theorem dX10_caravan_118 : decode cX10_caravan 118 = .ok (.l2i, 1) := by decide +kernel
theorem dX10_caravan_119 : decode cX10_caravan 119 = .ok (.ireturn, 1) := by decide +kernel
theorem dX10_strings_0 : decode cX10_strings 0 = .ok (.aload_n 0, 1) := by decide +kernel
theorem dX10_strings_1 : decode cX10_strings 1 = .ok (.iconst 0, 1) := by decide +kernel
theorem dX10_strings_2 : decode cX10_strings 2 = .ok (.putfield 3, 3) := by decide +kernel
theorem dX10_strings_5 : decode cX10_strings 5 = .ok (.iload_n 1, 1) := by decide +kernel
theorem dX10_strings_6 : decode cX10_strings 6 = .ok (.i2l, 1) := by decide +kernel
theorem dX10_strings_7 : decode cX10_strings 7 = .ok (.lconst 0, 1) := by decide +kernel
theorem dX10_strings_8 : decode cX10_strings 8 = .ok (.ldc2_w 364, 3) := by decide +kernel
theorem dX10_strings_11 : decode cX10_strings 11 = .ok (.invokestatic 123, 3) := by decide +kernel
theorem dX10_strings_14 : decode cX10_strings 14 = .ok (.ifCond .eq 15, 3) := by decide +kernel
theorem dX10_strings_17 : decode cX10_strings 17 = .ok (.iload_n 2, 1) := by decide +kernel
theorem dX10_strings_18 : decode cX10_strings 18 = .ok (.i2l, 1) := by decide +kernel
theorem dX10_strings_19 : decode cX10_strings 19 = .ok (.lconst 1, 1) := by decide +kernel
theorem dX10_strings_20 : decode cX10_strings 20 = .ok (.ldc2_w 286, 3) := by decide +kernel
theorem dX10_strings_23 : decode cX10_strings 23 = .ok (.invokestatic 123, 3) := by decide +kernel
theorem dX10_strings_26 : decode cX10_strings 26 = .ok (.ifCond .ne 5, 3) := by decide +kernel
theorem dX10_strings_29 : decode cX10_strings 29 = .ok (.iconst (-1), 1) := by decide +kernel
theorem dX10_strings_30 : decode cX10_strings 30 = .ok (.ireturn, 1) := by decide +kernel
theorem dX10_strings_31 : decode cX10_strings 31 = .ok (.iload_n 1, 1) := by decide +kernel
theorem dX10_strings_32 : decode cX10_strings 32 = .ok (.bipush 40, 2) := by decide +kernel
theorem dX10_strings_34 : decode cX10_strings 34 = .ok (.idiv, 1) := by decide +kernel
theorem dX10_strings_35 : decode cX10_strings 35 = .ok (.istore_n 3, 1) := by decide +kernel
theorem dX10_strings_36 : decode cX10_strings 36 = .ok (.aload_n 0, 1) := by decide +kernel
theorem dX10_strings_37 : decode cX10_strings 37 = .ok (.iconst 0, 1) := by decide +kernel
theorem dX10_strings_38 : decode cX10_strings 38 = .ok (.putfield 15, 3) := by decide +kernel
theorem dX10_strings_41 : decode cX10_strings 41 = .ok (.aload_n 0, 1) := by decide +kernel
theorem dX10_strings_42 : decode cX10_strings 42 = .ok (.iload_n 1, 1) := by decide +kernel
theorem dX10_strings_43 : decode cX10_strings 43 = .ok (.bipush 40, 2) := by decide +kernel
theorem dX10_strings_45 : decode cX10_strings 45 = .ok (.irem, 1) := by decide +kernel
theorem dX10_strings_46 : decode cX10_strings 46 = .ok (.i2l, 1) := by decide +kernel
theorem dX10_strings_47 : decode cX10_strings 47 = .ok (.invokevirtual 18, 3) := by decide +kernel
theorem dX10_strings_50 : decode cX10_strings 50 = .ok (.aload_n 0, 1) := by decide +kernel
theorem dX10_strings_51 : decode cX10_strings 51 = .ok (.iload_n 3, 1) := by decide +kernel
theorem dX10_strings_52 : decode cX10_strings 52 = .ok (.bipush 25, 2) := by decide +kernel
theorem dX10_strings_54 : decode cX10_strings 54 = .ok (.iload_n 2, 1) := by decide +kernel
theorem dX10_strings_55 : decode cX10_strings 55 = .ok (.imul, 1) := by decide +kernel
theorem dX10_strings_56 : decode cX10_strings 56 = .ok (.iadd, 1) := by decide +kernel
theorem dX10_strings_57 : decode cX10_strings 57 = .ok (.iconst 1, 1) := by decide +kernel
theorem dX10_strings_58 : decode cX10_strings 58 = .ok (.isub, 1) := by decide +kernel
theorem dX10_strings_59 : decode cX10_strings 59 = .ok (.bipush 25, 2) := by decide +kernel
theorem dX10_strings_61 : decode cX10_strings 61 = .ok (.iload_n 2, 1) := by decide +kernel
theorem dX10_strings_62 : decode cX10_strings 62 = .ok (.imul, 1) := by decide +kernel
theorem dX10_strings_63 : decode cX10_strings 63 = .ok (.idiv, 1) := by decide +kernel
theorem dX10_strings_64 : decode cX10_strings 64 = .ok (.i2l, 1) := by decide +kernel
theorem dX10_strings_65 : decode cX10_strings 65 = .ok (.invokevirtual 18, 3) := by decide +kernel
theorem dX10_strings_68 : decode cX10_strings 68 = .ok (.iload_n 3, 1) := by decide +kernel
theorem dX10_strings_69 : decode cX10_strings 69 = .ok (.ireturn, 1) := by decide +kernel
theorem dX10_counts_0 : decode cX10_counts 0 = .ok (.aload_n 0, 1) := by decide +kernel
theorem dX10_counts_1 : decode cX10_counts 1 = .ok (.iconst 0, 1) := by decide +kernel
theorem dX10_counts_2 : decode cX10_counts 2 = .ok (.putfield 3, 3) := by decide +kernel
theorem dX10_counts_5 : decode cX10_counts 5 = .ok (.iload_n 1, 1) := by decide +kernel
theorem dX10_counts_6 : decode cX10_counts 6 = .ok (.i2l, 1) := by decide +kernel
theorem dX10_counts_7 : decode cX10_counts 7 = .ok (.lconst 0, 1) := by decide +kernel
theorem dX10_counts_8 : decode cX10_counts 8 = .ok (.ldc2_w 278, 3) := by decide +kernel
theorem dX10_counts_11 : decode cX10_counts 11 = .ok (.invokestatic 123, 3) := by decide +kernel
theorem dX10_counts_14 : decode cX10_counts 14 = .ok (.ifCond .eq 15, 3) := by decide +kernel
theorem dX10_counts_17 : decode cX10_counts 17 = .ok (.iload_n 2, 1) := by decide +kernel
theorem dX10_counts_18 : decode cX10_counts 18 = .ok (.i2l, 1) := by decide +kernel
theorem dX10_counts_19 : decode cX10_counts 19 = .ok (.lconst 1, 1) := by decide +kernel
theorem dX10_counts_20 : decode cX10_counts 20 = .ok (.ldc2_w 330, 3) := by decide +kernel
theorem dX10_counts_23 : decode cX10_counts 23 = .ok (.invokestatic 123, 3) := by decide +kernel
theorem dX10_counts_26 : decode cX10_counts 26 = .ok (.ifCond .ne 5, 3) := by decide +kernel
theorem dX10_counts_29 : decode cX10_counts 29 = .ok (.iconst (-1), 1) := by decide +kernel
theorem dX10_counts_30 : decode cX10_counts 30 = .ok (.ireturn, 1) := by decide +kernel
theorem dX10_counts_31 : decode cX10_counts 31 = .ok (.iload_n 1, 1) := by decide +kernel
theorem dX10_counts_32 : decode cX10_counts 32 = .ok (.bipush 99, 2) := by decide +kernel
theorem dX10_counts_34 : decode cX10_counts 34 = .ok (.iadd, 1) := by decide +kernel
theorem dX10_counts_35 : decode cX10_counts 35 = .ok (.bipush 100, 2) := by decide +kernel
theorem dX10_counts_37 : decode cX10_counts 37 = .ok (.idiv, 1) := by decide +kernel
theorem dX10_counts_38 : decode cX10_counts 38 = .ok (.iload_n 2, 1) := by decide +kernel
theorem dX10_counts_39 : decode cX10_counts 39 = .ok (.imul, 1) := by decide +kernel
theorem dX10_counts_40 : decode cX10_counts 40 = .ok (.istore_n 3, 1) := by decide +kernel
theorem dX10_counts_41 : decode cX10_counts 41 = .ok (.sipush 10000, 3) := by decide +kernel
theorem dX10_counts_44 : decode cX10_counts 44 = .ok (.istore 4, 2) := by decide +kernel
theorem dX10_counts_46 : decode cX10_counts 46 = .ok (.iload 4, 2) := by decide +kernel
theorem dX10_counts_48 : decode cX10_counts 48 = .ok (.ifCond .le 28, 3) := by decide +kernel
theorem dX10_counts_51 : decode cX10_counts 51 = .ok (.iload 4, 2) := by decide +kernel
theorem dX10_counts_53 : decode cX10_counts 53 = .ok (.iconst 1, 1) := by decide +kernel
theorem dX10_counts_54 : decode cX10_counts 54 = .ok (.isub, 1) := by decide +kernel
theorem dX10_counts_55 : decode cX10_counts 55 = .ok (.bipush 99, 2) := by decide +kernel
theorem dX10_counts_57 : decode cX10_counts 57 = .ok (.iadd, 1) := by decide +kernel
theorem dX10_counts_58 : decode cX10_counts 58 = .ok (.bipush 100, 2) := by decide +kernel
theorem dX10_counts_60 : decode cX10_counts 60 = .ok (.idiv, 1) := by decide +kernel
theorem dX10_counts_61 : decode cX10_counts 61 = .ok (.iload_n 2, 1) := by decide +kernel
theorem dX10_counts_62 : decode cX10_counts 62 = .ok (.imul, 1) := by decide +kernel
theorem dX10_counts_63 : decode cX10_counts 63 = .ok (.iload 4, 2) := by decide +kernel
theorem dX10_counts_65 : decode cX10_counts 65 = .ok (.iconst 1, 1) := by decide +kernel
theorem dX10_counts_66 : decode cX10_counts 66 = .ok (.isub, 1) := by decide +kernel
theorem dX10_counts_67 : decode cX10_counts 67 = .ok (.if_icmp .gt 9, 3) := by decide +kernel
theorem dX10_counts_70 : decode cX10_counts 70 = .ok (.iinc 4 (-1), 3) := by decide +kernel
theorem dX10_counts_73 : decode cX10_counts 73 = .ok (.goto (-27), 3) := by decide +kernel
theorem dX10_counts_76 : decode cX10_counts 76 = .ok (.aload_n 0, 1) := by decide +kernel
theorem dX10_counts_77 : decode cX10_counts 77 = .ok (.iconst 0, 1) := by decide +kernel
theorem dX10_counts_78 : decode cX10_counts 78 = .ok (.putfield 15, 3) := by decide +kernel
theorem dX10_counts_81 : decode cX10_counts 81 = .ok (.aload_n 0, 1) := by decide +kernel
theorem dX10_counts_82 : decode cX10_counts 82 = .ok (.iload_n 3, 1) := by decide +kernel
theorem dX10_counts_83 : decode cX10_counts 83 = .ok (.iload_n 1, 1) := by decide +kernel
theorem dX10_counts_84 : decode cX10_counts 84 = .ok (.if_icmp .le 7, 3) := by decide +kernel
theorem dX10_counts_87 : decode cX10_counts 87 = .ok (.iconst 1, 1) := by decide +kernel
theorem dX10_counts_88 : decode cX10_counts 88 = .ok (.goto 4, 3) := by decide +kernel
theorem dX10_counts_91 : decode cX10_counts 91 = .ok (.iconst 0, 1) := by decide +kernel
theorem dX10_counts_92 : decode cX10_counts 92 = .ok (.invokestatic 145, 3) := by decide +kernel
theorem dX10_counts_95 : decode cX10_counts 95 = .ok (.i2l, 1) := by decide +kernel
theorem dX10_counts_96 : decode cX10_counts 96 = .ok (.invokevirtual 18, 3) := by decide +kernel
theorem dX10_counts_99 : decode cX10_counts 99 = .ok (.aload_n 0, 1) := by decide +kernel
theorem dX10_counts_100 : decode cX10_counts 100 = .ok (.iload 4, 2) := by decide +kernel
theorem dX10_counts_102 : decode cX10_counts 102 = .ok (.i2l, 1) := by decide +kernel
