theorem dX0_init_0 : decode cX0_init 0 = .ok (.aload_n 0, 1) := by decide +kernel
theorem dX0_init_1 : decode cX0_init 1 = .ok (.invokespecial 3, 3) := by decide +kernel
theorem dX0_init_4 : decode cX0_init 4 = .ok (.aload_n 0, 1) := by decide +kernel
theorem dX0_init_5 : decode cX0_init 5 = .ok (.new 9, 3) := by decide +kernel
theorem dX0_init_8 : decode cX0_init 8 = .ok (.dup, 1) := by decide +kernel
theorem dX0_init_9 : decode cX0_init 9 = .ok (.invokespecial 11, 3) := by decide +kernel
theorem dX0_init_12 : decode cX0_init 12 = .ok (.putfield 12, 3) := by decide +kernel
theorem dX0_init_15 : decode cX0_init 15 = .ok (.aload_n 0, 1) := by decide +kernel
theorem dX0_init_16 : decode cX0_init 16 = .ok (.sipush 256, 3) := by decide +kernel
theorem dX0_init_19 : decode cX0_init 19 = .ok (.newarray .long, 2) := by decide +kernel
theorem dX0_init_21 : decode cX0_init 21 = .ok (.putfield 18, 3) := by decide +kernel
theorem dX0_init_24 : decode cX0_init 24 = .ok (.aload_n 0, 1) := by decide +kernel
theorem dX0_init_25 : decode cX0_init 25 = .ok (.bipush 64, 2) := by decide +kernel
theorem dX0_init_27 : decode cX0_init 27 = .ok (.newarray .int, 2) := by decide +kernel
theorem dX0_init_29 : decode cX0_init 29 = .ok (.putfield 22, 3) := by decide +kernel
theorem dX0_init_32 : decode cX0_init 32 = .ok (.return_, 1) := by decide +kernel
theorem dX0_lay_0 : decode cX0_lay 0 = .ok (.aload_n 0, 1) := by decide +kernel
theorem dX0_lay_1 : decode cX0_lay 1 = .ok (.aload_n 2, 1) := by decide +kernel
theorem dX0_lay_2 : decode cX0_lay 2 = .ok (.getfield 26, 3) := by decide +kernel
theorem dX0_lay_5 : decode cX0_lay 5 = .ok (.sipush 256, 3) := by decide +kernel
theorem dX0_lay_8 : decode cX0_lay 8 = .ok (.invokestatic 32, 3) := by decide +kernel
theorem dX0_lay_11 : decode cX0_lay 11 = .ok (.putfield 38, 3) := by decide +kernel
theorem dX0_lay_14 : decode cX0_lay 14 = .ok (.iconst 0, 1) := by decide +kernel
theorem dX0_lay_15 : decode cX0_lay 15 = .ok (.istore_n 3, 1) := by decide +kernel
theorem dX0_lay_16 : decode cX0_lay 16 = .ok (.iload_n 3, 1) := by decide +kernel
theorem dX0_lay_17 : decode cX0_lay 17 = .ok (.aload_n 0, 1) := by decide +kernel
theorem dX0_lay_18 : decode cX0_lay 18 = .ok (.getfield 38, 3) := by decide +kernel
theorem dX0_lay_21 : decode cX0_lay 21 = .ok (.if_icmp .ge 28, 3) := by decide +kernel
theorem dX0_lay_24 : decode cX0_lay 24 = .ok (.aload_n 0, 1) := by decide +kernel
theorem dX0_lay_25 : decode cX0_lay 25 = .ok (.getfield 18, 3) := by decide +kernel
theorem dX0_lay_28 : decode cX0_lay 28 = .ok (.iload_n 3, 1) := by decide +kernel
theorem dX0_lay_29 : decode cX0_lay 29 = .ok (.aload_n 2, 1) := by decide +kernel
theorem dX0_lay_30 : decode cX0_lay 30 = .ok (.iload_n 3, 1) := by decide +kernel
theorem dX0_lay_31 : decode cX0_lay 31 = .ok (.aload_n 1, 1) := by decide +kernel
theorem dX0_lay_32 : decode cX0_lay 32 = .ok (.getfield 39, 3) := by decide +kernel
theorem dX0_lay_35 : decode cX0_lay 35 = .ok (.aload_n 1, 1) := by decide +kernel
theorem dX0_lay_36 : decode cX0_lay 36 = .ok (.getfield 44, 3) := by decide +kernel
theorem dX0_lay_39 : decode cX0_lay 39 = .ok (.invokevirtual 47, 3) := by decide +kernel
theorem dX0_lay_42 : decode cX0_lay 42 = .ok (.lastore, 1) := by decide +kernel
theorem dX0_lay_43 : decode cX0_lay 43 = .ok (.iinc 3 1, 3) := by decide +kernel
theorem dX0_lay_46 : decode cX0_lay 46 = .ok (.goto (-30), 3) := by decide +kernel
theorem dX0_lay_49 : decode cX0_lay 49 = .ok (.return_, 1) := by decide +kernel
theorem dX0_hear_0 : decode cX0_hear 0 = .ok (.aload_n 0, 1) := by decide +kernel
theorem dX0_hear_1 : decode cX0_hear 1 = .ok (.aload_n 1, 1) := by decide +kernel
theorem dX0_hear_2 : decode cX0_hear 2 = .ok (.aload_n 2, 1) := by decide +kernel
theorem dX0_hear_3 : decode cX0_hear 3 = .ok (.invokevirtual 51, 3) := by decide +kernel
theorem dX0_hear_6 : decode cX0_hear 6 = .ok (.aload_n 1, 1) := by decide +kernel
theorem dX0_hear_7 : decode cX0_hear 7 = .ok (.invokevirtual 55, 3) := by decide +kernel
theorem dX0_hear_10 : decode cX0_hear 10 = .ok (.lstore 4, 2) := by decide +kernel
theorem dX0_hear_12 : decode cX0_hear 12 = .ok (.aload_n 0, 1) := by decide +kernel
theorem dX0_hear_13 : decode cX0_hear 13 = .ok (.lconst 0, 1) := by decide +kernel
theorem dX0_hear_14 : decode cX0_hear 14 = .ok (.putfield 59, 3) := by decide +kernel
theorem dX0_hear_17 : decode cX0_hear 17 = .ok (.aload_n 0, 1) := by decide +kernel
theorem dX0_hear_18 : decode cX0_hear 18 = .ok (.getfield 12, 3) := by decide +kernel
theorem dX0_hear_21 : decode cX0_hear 21 = .ok (.invokevirtual 63, 3) := by decide +kernel
theorem dX0_hear_24 : decode cX0_hear 24 = .ok (.iconst 0, 1) := by decide +kernel
theorem dX0_hear_25 : decode cX0_hear 25 = .ok (.istore 6, 2) := by decide +kernel
theorem dX0_hear_27 : decode cX0_hear 27 = .ok (.iload 6, 2) := by decide +kernel
theorem dX0_hear_29 : decode cX0_hear 29 = .ok (.aload_n 3, 1) := by decide +kernel
theorem dX0_hear_30 : decode cX0_hear 30 = .ok (.getfield 66, 3) := by decide +kernel
theorem dX0_hear_33 : decode cX0_hear 33 = .ok (.if_icmp .ge 80, 3) := by decide +kernel
theorem dX0_hear_36 : decode cX0_hear 36 = .ok (.aload_n 3, 1) := by decide +kernel
theorem dX0_hear_37 : decode cX0_hear 37 = .ok (.iload 6, 2) := by decide +kernel
theorem dX0_hear_39 : decode cX0_hear 39 = .ok (.invokevirtual 71, 3) := by decide +kernel
theorem dX0_hear_42 : decode cX0_hear 42 = .ok (.l2i, 1) := by decide +kernel
theorem dX0_hear_43 : decode cX0_hear 43 = .ok (.istore 7, 2) := by decide +kernel
theorem dX0_hear_45 : decode cX0_hear 45 = .ok (.iload 7, 2) := by decide +kernel
theorem dX0_hear_47 : decode cX0_hear 47 = .ok (.ifCond .lt 60, 3) := by decide +kernel
theorem dX0_hear_50 : decode cX0_hear 50 = .ok (.iload 7, 2) := by decide +kernel
theorem dX0_hear_52 : decode cX0_hear 52 = .ok (.aload_n 0, 1) := by decide +kernel
theorem dX0_hear_53 : decode cX0_hear 53 = .ok (.getfield 38, 3) := by decide +kernel
theorem dX0_hear_56 : decode cX0_hear 56 = .ok (.if_icmp .ge 51, 3) := by decide +kernel
theorem dX0_hear_59 : decode cX0_hear 59 = .ok (.aload_n 0, 1) := by decide +kernel
theorem dX0_hear_60 : decode cX0_hear 60 = .ok (.getfield 12, 3) := by decide +kernel
theorem dX0_hear_63 : decode cX0_hear 63 = .ok (.iload 7, 2) := by decide +kernel
theorem dX0_hear_65 : decode cX0_hear 65 = .ok (.invokevirtual 75, 3) := by decide +kernel
theorem dX0_hear_68 : decode cX0_hear 68 = .ok (.aload_n 0, 1) := by decide +kernel
theorem dX0_hear_69 : decode cX0_hear 69 = .ok (.dup, 1) := by decide +kernel
theorem dX0_hear_70 : decode cX0_hear 70 = .ok (.getfield 59, 3) := by decide +kernel
theorem dX0_hear_73 : decode cX0_hear 73 = .ok (.aload_n 0, 1) := by decide +kernel
theorem dX0_hear_74 : decode cX0_hear 74 = .ok (.getfield 18, 3) := by decide +kernel
theorem dX0_hear_77 : decode cX0_hear 77 = .ok (.iload 7, 2) := by decide +kernel
theorem dX0_hear_79 : decode cX0_hear 79 = .ok (.laload, 1) := by decide +kernel
theorem dX0_hear_80 : decode cX0_hear 80 = .ok (.lload 4, 2) := by decide +kernel
theorem dX0_hear_82 : decode cX0_hear 82 = .ok (.ldc2_w 79, 3) := by decide +kernel
theorem dX0_hear_85 : decode cX0_hear 85 = .ok (.lxor, 1) := by decide +kernel
theorem dX0_hear_86 : decode cX0_hear 86 = .ok (.land, 1) := by decide +kernel
theorem dX0_hear_87 : decode cX0_hear 87 = .ok (.lconst 0, 1) := by decide +kernel
theorem dX0_hear_88 : decode cX0_hear 88 = .ok (.lcmp, 1) := by decide +kernel
theorem dX0_hear_89 : decode cX0_hear 89 = .ok (.ifCond .ne 13, 3) := by decide +kernel
theorem dX0_hear_92 : decode cX0_hear 92 = .ok (.aload_n 0, 1) := by decide +kernel
theorem dX0_hear_93 : decode cX0_hear 93 = .ok (.getfield 18, 3) := by decide +kernel
theorem dX0_hear_96 : decode cX0_hear 96 = .ok (.iload 7, 2) := by decide +kernel
theorem dX0_hear_98 : decode cX0_hear 98 = .ok (.laload, 1) := by decide +kernel
theorem dX0_hear_99 : decode cX0_hear 99 = .ok (.goto 4, 3) := by decide +kernel
theorem dX0_hear_102 : decode cX0_hear 102 = .ok (.lconst 0, 1) := by decide +kernel
theorem dX0_hear_103 : decode cX0_hear 103 = .ok (.lor, 1) := by decide +kernel
theorem dX0_hear_104 : decode cX0_hear 104 = .ok (.putfield 59, 3) := by decide +kernel
theorem dX0_hear_107 : decode cX0_hear 107 = .ok (.iinc 6 1, 3) := by decide +kernel
theorem dX0_hear_110 : decode cX0_hear 110 = .ok (.goto (-83), 3) := by decide +kernel
theorem dX0_hear_113 : decode cX0_hear 113 = .ok (.return_, 1) := by decide +kernel
theorem dX0_knownPlaces_0 : decode cX0_knownPlaces 0 = .ok (.aload_n 0, 1) := by decide +kernel
theorem dX0_knownPlaces_1 : decode cX0_knownPlaces 1 = .ok (.getfield 59, 3) := by decide +kernel
theorem dX0_knownPlaces_4 : decode cX0_knownPlaces 4 = .ok (.invokestatic 81, 3) := by decide +kernel
theorem dX0_knownPlaces_7 : decode cX0_knownPlaces 7 = .ok (.ireturn, 1) := by decide +kernel
theorem dX0_knownNames_0 : decode cX0_knownNames 0 = .ok (.iconst 0, 1) := by decide +kernel
theorem dX0_knownNames_1 : decode cX0_knownNames 1 = .ok (.istore_n 2, 1) := by decide +kernel
theorem dX0_knownNames_2 : decode cX0_knownNames 2 = .ok (.iconst 0, 1) := by decide +kernel
theorem dX0_knownNames_3 : decode cX0_knownNames 3 = .ok (.istore_n 3, 1) := by decide +kernel
theorem dX0_knownNames_4 : decode cX0_knownNames 4 = .ok (.iload_n 3, 1) := by decide +kernel
theorem dX0_knownNames_5 : decode cX0_knownNames 5 = .ok (.aload_n 0, 1) := by decide +kernel
theorem dX0_knownNames_6 : decode cX0_knownNames 6 = .ok (.getfield 38, 3) := by decide +kernel
theorem dX0_knownNames_9 : decode cX0_knownNames 9 = .ok (.if_icmp .ge 47, 3) := by decide +kernel
theorem dX0_knownNames_12 : decode cX0_knownNames 12 = .ok (.aload_n 0, 1) := by decide +kernel
theorem dX0_knownNames_13 : decode cX0_knownNames 13 = .ok (.getfield 18, 3) := by decide +kernel
theorem dX0_knownNames_16 : decode cX0_knownNames 16 = .ok (.iload_n 3, 1) := by decide +kernel
theorem dX0_knownNames_17 : decode cX0_knownNames 17 = .ok (.laload, 1) := by decide +kernel
theorem dX0_knownNames_18 : decode cX0_knownNames 18 = .ok (.aload_n 0, 1) := by decide +kernel
theorem dX0_knownNames_19 : decode cX0_knownNames 19 = .ok (.getfield 59, 3) := by decide +kernel
theorem dX0_knownNames_22 : decode cX0_knownNames 22 = .ok (.ldc2_w 79, 3) := by decide +kernel
theorem dX0_knownNames_25 : decode cX0_knownNames 25 = .ok (.lxor, 1) := by decide +kernel
theorem dX0_knownNames_26 : decode cX0_knownNames 26 = .ok (.land, 1) := by decide +kernel
theorem dX0_knownNames_27 : decode cX0_knownNames 27 = .ok (.lconst 0, 1) := by decide +kernel
theorem dX0_knownNames_28 : decode cX0_knownNames 28 = .ok (.lcmp, 1) := by decide +kernel
theorem dX0_knownNames_29 : decode cX0_knownNames 29 = .ok (.ifCond .ne 21, 3) := by decide +kernel
theorem dX0_knownNames_32 : decode cX0_knownNames 32 = .ok (.iload_n 1, 1) := by decide +kernel
theorem dX0_knownNames_33 : decode cX0_knownNames 33 = .ok (.ifCond .eq 14, 3) := by decide +kernel
theorem dX0_knownNames_36 : decode cX0_knownNames 36 = .ok (.aload_n 0, 1) := by decide +kernel
theorem dX0_knownNames_37 : decode cX0_knownNames 37 = .ok (.getfield 12, 3) := by decide +kernel
theorem dX0_knownNames_40 : decode cX0_knownNames 40 = .ok (.iload_n 3, 1) := by decide +kernel
theorem dX0_knownNames_41 : decode cX0_knownNames 41 = .ok (.invokevirtual 87, 3) := by decide +kernel
theorem dX0_knownNames_44 : decode cX0_knownNames 44 = .ok (.ifCond .ne 6, 3) := by decide +kernel
theorem dX0_knownNames_47 : decode cX0_knownNames 47 = .ok (.iinc 2 1, 3) := by decide +kernel
theorem dX0_knownNames_50 : decode cX0_knownNames 50 = .ok (.iinc 3 1, 3) := by decide +kernel
theorem dX0_knownNames_53 : decode cX0_knownNames 53 = .ok (.goto (-49), 3) := by decide +kernel
theorem dX0_knownNames_56 : decode cX0_knownNames 56 = .ok (.iload_n 2, 1) := by decide +kernel
theorem dX0_knownNames_57 : decode cX0_knownNames 57 = .ok (.ireturn, 1) := by decide +kernel
theorem dX0_bestQuestion_0 : decode cX0_bestQuestion 0 = .ok (.iconst (-1), 1) := by decide +kernel
theorem dX0_bestQuestion_1 : decode cX0_bestQuestion 1 = .ok (.istore_n 1, 1) := by decide +kernel
theorem dX0_bestQuestion_2 : decode cX0_bestQuestion 2 = .ok (.iconst (-1), 1) := by decide +kernel
theorem dX0_bestQuestion_3 : decode cX0_bestQuestion 3 = .ok (.istore_n 2, 1) := by decide +kernel
theorem dX0_bestQuestion_4 : decode cX0_bestQuestion 4 = .ok (.iconst 0, 1) := by decide +kernel
theorem dX0_bestQuestion_5 : decode cX0_bestQuestion 5 = .ok (.istore_n 3, 1) := by decide +kernel
theorem dX0_bestQuestion_6 : decode cX0_bestQuestion 6 = .ok (.iload_n 3, 1) := by decide +kernel
theorem dX0_bestQuestion_7 : decode cX0_bestQuestion 7 = .ok (.aload_n 0, 1) := by decide +kernel
theorem dX0_bestQuestion_8 : decode cX0_bestQuestion 8 = .ok (.getfield 38, 3) := by decide +kernel
theorem dX0_bestQuestion_11 : decode cX0_bestQuestion 11 = .ok (.if_icmp .ge 51, 3) := by decide +kernel
theorem dX0_bestQuestion_14 : decode cX0_bestQuestion 14 = .ok (.aload_n 0, 1) := by decide +kernel
theorem dX0_bestQuestion_15 : decode cX0_bestQuestion 15 = .ok (.getfield 18, 3) := by decide +kernel
theorem dX0_bestQuestion_18 : decode cX0_bestQuestion 18 = .ok (.iload_n 3, 1) := by decide +kernel
theorem dX0_bestQuestion_19 : decode cX0_bestQuestion 19 = .ok (.laload, 1) := by decide +kernel
theorem dX0_bestQuestion_20 : decode cX0_bestQuestion 20 = .ok (.aload_n 0, 1) := by decide +kernel
theorem dX0_bestQuestion_21 : decode cX0_bestQuestion 21 = .ok (.getfield 59, 3) := by decide +kernel
theorem dX0_bestQuestion_24 : decode cX0_bestQuestion 24 = .ok (.ldc2_w 79, 3) := by decide +kernel
theorem dX0_bestQuestion_27 : decode cX0_bestQuestion 27 = .ok (.lxor, 1) := by decide +kernel
theorem dX0_bestQuestion_28 : decode cX0_bestQuestion 28 = .ok (.land, 1) := by decide +kernel
theorem dX0_bestQuestion_29 : decode cX0_bestQuestion 29 = .ok (.invokestatic 81, 3) := by decide +kernel
theorem dX0_bestQuestion_32 : decode cX0_bestQuestion 32 = .ok (.istore 4, 2) := by decide +kernel
theorem dX0_bestQuestion_34 : decode cX0_bestQuestion 34 = .ok (.aload_n 0, 1) := by decide +kernel
theorem dX0_bestQuestion_35 : decode cX0_bestQuestion 35 = .ok (.getfield 12, 3) := by decide +kernel
theorem dX0_bestQuestion_38 : decode cX0_bestQuestion 38 = .ok (.iload_n 3, 1) := by decide +kernel
theorem dX0_bestQuestion_39 : decode cX0_bestQuestion 39 = .ok (.invokevirtual 87, 3) := by decide +kernel
theorem dX0_bestQuestion_42 : decode cX0_bestQuestion 42 = .ok (.ifCond .ne 14, 3) := by decide +kernel
theorem dX0_bestQuestion_45 : decode cX0_bestQuestion 45 = .ok (.iload 4, 2) := by decide +kernel
theorem dX0_bestQuestion_47 : decode cX0_bestQuestion 47 = .ok (.iload_n 2, 1) := by decide +kernel
theorem dX0_bestQuestion_48 : decode cX0_bestQuestion 48 = .ok (.if_icmp .le 8, 3) := by decide +kernel
theorem dX0_bestQuestion_51 : decode cX0_bestQuestion 51 = .ok (.iload_n 3, 1) := by decide +kernel
theorem dX0_bestQuestion_52 : decode cX0_bestQuestion 52 = .ok (.istore_n 1, 1) := by decide +kernel
theorem dX0_bestQuestion_53 : decode cX0_bestQuestion 53 = .ok (.iload 4, 2) := by decide +kernel
theorem dX0_bestQuestion_55 : decode cX0_bestQuestion 55 = .ok (.istore_n 2, 1) := by decide +kernel
theorem dX0_bestQuestion_56 : decode cX0_bestQuestion 56 = .ok (.iinc 3 1, 3) := by decide +kernel
theorem dX0_bestQuestion_59 : decode cX0_bestQuestion 59 = .ok (.goto (-53), 3) := by decide +kernel
theorem dX0_bestQuestion_62 : decode cX0_bestQuestion 62 = .ok (.iload_n 1, 1) := by decide +kernel
theorem dX0_bestQuestion_63 : decode cX0_bestQuestion 63 = .ok (.ireturn, 1) := by decide +kernel
theorem dX0_liesWithin_0 : decode cX0_liesWithin 0 = .ok (.iconst 0, 1) := by decide +kernel
theorem dX0_liesWithin_1 : decode cX0_liesWithin 1 = .ok (.istore 5, 2) := by decide +kernel
theorem dX0_liesWithin_3 : decode cX0_liesWithin 3 = .ok (.iconst 0, 1) := by decide +kernel
theorem dX0_liesWithin_4 : decode cX0_liesWithin 4 = .ok (.istore 6, 2) := by decide +kernel
theorem dX0_liesWithin_6 : decode cX0_liesWithin 6 = .ok (.iload 6, 2) := by decide +kernel
theorem dX0_liesWithin_8 : decode cX0_liesWithin 8 = .ok (.aload_n 0, 1) := by decide +kernel
theorem dX0_liesWithin_9 : decode cX0_liesWithin 9 = .ok (.getfield 38, 3) := by decide +kernel
theorem dX0_liesWithin_12 : decode cX0_liesWithin 12 = .ok (.if_icmp .ge 46, 3) := by decide +kernel
theorem dX0_liesWithin_15 : decode cX0_liesWithin 15 = .ok (.aload_n 0, 1) := by decide +kernel
theorem dX0_liesWithin_16 : decode cX0_liesWithin 16 = .ok (.getfield 18, 3) := by decide +kernel
theorem dX0_liesWithin_19 : decode cX0_liesWithin 19 = .ok (.iload 6, 2) := by decide +kernel
theorem dX0_liesWithin_21 : decode cX0_liesWithin 21 = .ok (.laload, 1) := by decide +kernel
theorem dX0_liesWithin_22 : decode cX0_liesWithin 22 = .ok (.lload_n 2, 1) := by decide +kernel
theorem dX0_liesWithin_23 : decode cX0_liesWithin 23 = .ok (.ldc2_w 79, 3) := by decide +kernel
theorem dX0_liesWithin_26 : decode cX0_liesWithin 26 = .ok (.lxor, 1) := by decide +kernel
theorem dX0_liesWithin_27 : decode cX0_liesWithin 27 = .ok (.land, 1) := by decide +kernel
theorem dX0_liesWithin_28 : decode cX0_liesWithin 28 = .ok (.lconst 0, 1) := by decide +kernel
theorem dX0_liesWithin_29 : decode cX0_liesWithin 29 = .ok (.lcmp, 1) := by decide +kernel
theorem dX0_liesWithin_30 : decode cX0_liesWithin 30 = .ok (.ifCond .ne 22, 3) := by decide +kernel
theorem dX0_liesWithin_33 : decode cX0_liesWithin 33 = .ok (.iload 6, 2) := by decide +kernel
theorem dX0_liesWithin_35 : decode cX0_liesWithin 35 = .ok (.iload 4, 2) := by decide +kernel
theorem dX0_liesWithin_37 : decode cX0_liesWithin 37 = .ok (.if_icmp .eq 15, 3) := by decide +kernel
theorem dX0_liesWithin_40 : decode cX0_liesWithin 40 = .ok (.aload_n 1, 1) := by decide +kernel
theorem dX0_liesWithin_41 : decode cX0_liesWithin 41 = .ok (.iload 6, 2) := by decide +kernel
theorem dX0_liesWithin_43 : decode cX0_liesWithin 43 = .ok (.invokevirtual 87, 3) := by decide +kernel
theorem dX0_liesWithin_46 : decode cX0_liesWithin 46 = .ok (.ifCond .ne 6, 3) := by decide +kernel
theorem dX0_liesWithin_49 : decode cX0_liesWithin 49 = .ok (.iinc 5 1, 3) := by decide +kernel
theorem dX0_liesWithin_52 : decode cX0_liesWithin 52 = .ok (.iinc 6 1, 3) := by decide +kernel
theorem dX0_liesWithin_55 : decode cX0_liesWithin 55 = .ok (.goto (-49), 3) := by decide +kernel
theorem dX0_liesWithin_58 : decode cX0_liesWithin 58 = .ok (.iload 5, 2) := by decide +kernel
theorem dX0_liesWithin_60 : decode cX0_liesWithin 60 = .ok (.ireturn, 1) := by decide +kernel
theorem dX0_findWorst_0 : decode cX0_findWorst 0 = .ok (.aload_n 0, 1) := by decide +kernel
theorem dX0_findWorst_1 : decode cX0_findWorst 1 = .ok (.aload_n 1, 1) := by decide +kernel
theorem dX0_findWorst_2 : decode cX0_findWorst 2 = .ok (.aload_n 2, 1) := by decide +kernel
theorem dX0_findWorst_3 : decode cX0_findWorst 3 = .ok (.invokevirtual 51, 3) := by decide +kernel
theorem dX0_findWorst_6 : decode cX0_findWorst 6 = .ok (.aload_n 1, 1) := by decide +kernel
theorem dX0_findWorst_7 : decode cX0_findWorst 7 = .ok (.invokevirtual 55, 3) := by decide +kernel
theorem dX0_findWorst_10 : decode cX0_findWorst 10 = .ok (.lstore_n 3, 1) := by decide +kernel
theorem dX0_findWorst_11 : decode cX0_findWorst 11 = .ok (.aload_n 0, 1) := by decide +kernel
theorem dX0_findWorst_12 : decode cX0_findWorst 12 = .ok (.iconst (-1), 1) := by decide +kernel
theorem dX0_findWorst_13 : decode cX0_findWorst 13 = .ok (.putfield 91, 3) := by decide +kernel
theorem dX0_findWorst_16 : decode cX0_findWorst 16 = .ok (.aload_n 0, 1) := by decide +kernel
theorem dX0_findWorst_17 : decode cX0_findWorst 17 = .ok (.iconst (-1), 1) := by decide +kernel
theorem dX0_findWorst_18 : decode cX0_findWorst 18 = .ok (.putfield 94, 3) := by decide +kernel
theorem dX0_findWorst_21 : decode cX0_findWorst 21 = .ok (.iconst 0, 1) := by decide +kernel
theorem dX0_findWorst_22 : decode cX0_findWorst 22 = .ok (.istore 5, 2) := by decide +kernel
theorem dX0_findWorst_24 : decode cX0_findWorst 24 = .ok (.iload 5, 2) := by decide +kernel
theorem dX0_findWorst_26 : decode cX0_findWorst 26 = .ok (.aload_n 0, 1) := by decide +kernel
theorem dX0_findWorst_27 : decode cX0_findWorst 27 = .ok (.getfield 38, 3) := by decide +kernel
theorem dX0_findWorst_30 : decode cX0_findWorst 30 = .ok (.if_icmp .ge 63, 3) := by decide +kernel
theorem dX0_findWorst_33 : decode cX0_findWorst 33 = .ok (.aload_n 1, 1) := by decide +kernel
theorem dX0_findWorst_34 : decode cX0_findWorst 34 = .ok (.getfield 97, 3) := by decide +kernel
theorem dX0_findWorst_37 : decode cX0_findWorst 37 = .ok (.iload 5, 2) := by decide +kernel
theorem dX0_findWorst_39 : decode cX0_findWorst 39 = .ok (.invokevirtual 87, 3) := by decide +kernel
theorem dX0_findWorst_42 : decode cX0_findWorst 42 = .ok (.ifCond .ne 45, 3) := by decide +kernel
theorem dX0_findWorst_45 : decode cX0_findWorst 45 = .ok (.aload_n 0, 1) := by decide +kernel
theorem dX0_findWorst_46 : decode cX0_findWorst 46 = .ok (.aload_n 1, 1) := by decide +kernel
theorem dX0_findWorst_47 : decode cX0_findWorst 47 = .ok (.getfield 97, 3) := by decide +kernel
theorem dX0_findWorst_50 : decode cX0_findWorst 50 = .ok (.lload_n 3, 1) := by decide +kernel
theorem dX0_findWorst_51 : decode cX0_findWorst 51 = .ok (.aload_n 0, 1) := by decide +kernel
theorem dX0_findWorst_52 : decode cX0_findWorst 52 = .ok (.getfield 18, 3) := by decide +kernel
theorem dX0_findWorst_55 : decode cX0_findWorst 55 = .ok (.iload 5, 2) := by decide +kernel
theorem dX0_findWorst_57 : decode cX0_findWorst 57 = .ok (.laload, 1) := by decide +kernel
theorem dX0_findWorst_58 : decode cX0_findWorst 58 = .ok (.lor, 1) := by decide +kernel
theorem dX0_findWorst_59 : decode cX0_findWorst 59 = .ok (.iload 5, 2) := by decide +kernel
theorem dX0_findWorst_61 : decode cX0_findWorst 61 = .ok (.invokevirtual 100, 3) := by decide +kernel
theorem dX0_findWorst_64 : decode cX0_findWorst 64 = .ok (.istore 6, 2) := by decide +kernel
theorem dX0_findWorst_66 : decode cX0_findWorst 66 = .ok (.iload 6, 2) := by decide +kernel
theorem dX0_findWorst_68 : decode cX0_findWorst 68 = .ok (.aload_n 0, 1) := by decide +kernel
theorem dX0_findWorst_69 : decode cX0_findWorst 69 = .ok (.getfield 94, 3) := by decide +kernel
theorem dX0_findWorst_72 : decode cX0_findWorst 72 = .ok (.if_icmp .le 15, 3) := by decide +kernel
theorem dX0_findWorst_75 : decode cX0_findWorst 75 = .ok (.aload_n 0, 1) := by decide +kernel
theorem dX0_findWorst_76 : decode cX0_findWorst 76 = .ok (.iload 6, 2) := by decide +kernel
theorem dX0_findWorst_78 : decode cX0_findWorst 78 = .ok (.putfield 94, 3) := by decide +kernel
theorem dX0_findWorst_81 : decode cX0_findWorst 81 = .ok (.aload_n 0, 1) := by decide +kernel
theorem dX0_findWorst_82 : decode cX0_findWorst 82 = .ok (.iload 5, 2) := by decide +kernel
theorem dX0_findWorst_84 : decode cX0_findWorst 84 = .ok (.putfield 91, 3) := by decide +kernel
theorem dX0_findWorst_87 : decode cX0_findWorst 87 = .ok (.iinc 5 1, 3) := by decide +kernel
theorem dX0_findWorst_90 : decode cX0_findWorst 90 = .ok (.goto (-66), 3) := by decide +kernel
theorem dX0_findWorst_93 : decode cX0_findWorst 93 = .ok (.aload_n 0, 1) := by decide +kernel
theorem dX0_findWorst_94 : decode cX0_findWorst 94 = .ok (.getfield 91, 3) := by decide +kernel
theorem dX0_findWorst_97 : decode cX0_findWorst 97 = .ok (.iconst (-1), 1) := by decide +kernel
theorem dX0_findWorst_98 : decode cX0_findWorst 98 = .ok (.if_icmp .eq 7, 3) := by decide +kernel
theorem dX0_findWorst_101 : decode cX0_findWorst 101 = .ok (.iconst 1, 1) := by decide +kernel
theorem dX0_findWorst_102 : decode cX0_findWorst 102 = .ok (.goto 4, 3) := by decide +kernel
theorem dX0_findWorst_105 : decode cX0_findWorst 105 = .ok (.iconst 0, 1) := by decide +kernel
theorem dX0_findWorst_106 : decode cX0_findWorst 106 = .ok (.ireturn, 1) := by decide +kernel
theorem dX0_fewestHolding_0 : decode cX0_fewestHolding 0 = .ok (.aload_n 2, 1) := by decide +kernel
theorem dX0_fewestHolding_1 : decode cX0_fewestHolding 1 = .ok (.iload_n 3, 1) := by decide +kernel
theorem dX0_fewestHolding_2 : decode cX0_fewestHolding 2 = .ok (.aload_n 1, 1) := by decide +kernel
theorem dX0_fewestHolding_3 : decode cX0_fewestHolding 3 = .ok (.getfield 39, 3) := by decide +kernel
theorem dX0_fewestHolding_6 : decode cX0_fewestHolding 6 = .ok (.aload_n 1, 1) := by decide +kernel
theorem dX0_fewestHolding_7 : decode cX0_fewestHolding 7 = .ok (.getfield 44, 3) := by decide +kernel
theorem dX0_fewestHolding_10 : decode cX0_fewestHolding 10 = .ok (.invokevirtual 47, 3) := by decide +kernel
theorem dX0_fewestHolding_13 : decode cX0_fewestHolding 13 = .ok (.lstore 4, 2) := by decide +kernel
theorem dX0_fewestHolding_15 : decode cX0_fewestHolding 15 = .ok (.iconst 1, 1) := by decide +kernel
theorem dX0_fewestHolding_16 : decode cX0_fewestHolding 16 = .ok (.lload 4, 2) := by decide +kernel
theorem dX0_fewestHolding_18 : decode cX0_fewestHolding 18 = .ok (.invokestatic 81, 3) := by decide +kernel
theorem dX0_fewestHolding_21 : decode cX0_fewestHolding 21 = .ok (.ishl, 1) := by decide +kernel
theorem dX0_fewestHolding_22 : decode cX0_fewestHolding 22 = .ok (.iconst 1, 1) := by decide +kernel
theorem dX0_fewestHolding_23 : decode cX0_fewestHolding 23 = .ok (.isub, 1) := by decide +kernel
theorem dX0_fewestHolding_24 : decode cX0_fewestHolding 24 = .ok (.istore 6, 2) := by decide +kernel
theorem dX0_fewestHolding_26 : decode cX0_fewestHolding 26 = .ok (.aload_n 0, 1) := by decide +kernel
theorem dX0_fewestHolding_27 : decode cX0_fewestHolding 27 = .ok (.getfield 22, 3) := by decide +kernel
theorem dX0_fewestHolding_30 : decode cX0_fewestHolding 30 = .ok (.ldc 104, 2) := by decide +kernel
theorem dX0_fewestHolding_32 : decode cX0_fewestHolding 32 = .ok (.invokestatic 105, 3) := by decide +kernel
theorem dX0_fewestHolding_35 : decode cX0_fewestHolding 35 = .ok (.aload_n 0, 1) := by decide +kernel
theorem dX0_fewestHolding_36 : decode cX0_fewestHolding 36 = .ok (.getfield 22, 3) := by decide +kernel
theorem dX0_fewestHolding_39 : decode cX0_fewestHolding 39 = .ok (.iconst 0, 1) := by decide +kernel
theorem dX0_fewestHolding_40 : decode cX0_fewestHolding 40 = .ok (.iconst 0, 1) := by decide +kernel
theorem dX0_fewestHolding_41 : decode cX0_fewestHolding 41 = .ok (.iastore, 1) := by decide +kernel
theorem dX0_fewestHolding_42 : decode cX0_fewestHolding 42 = .ok (.iconst 0, 1) := by decide +kernel
theorem dX0_fewestHolding_43 : decode cX0_fewestHolding 43 = .ok (.istore 7, 2) := by decide +kernel
theorem dX0_fewestHolding_45 : decode cX0_fewestHolding 45 = .ok (.iload 7, 2) := by decide +kernel
theorem dX0_fewestHolding_47 : decode cX0_fewestHolding 47 = .ok (.aload_n 2, 1) := by decide +kernel
theorem dX0_fewestHolding_48 : decode cX0_fewestHolding 48 = .ok (.getfield 26, 3) := by decide +kernel
theorem dX0_fewestHolding_51 : decode cX0_fewestHolding 51 = .ok (.if_icmp .ge 50, 3) := by decide +kernel
theorem dX0_fewestHolding_54 : decode cX0_fewestHolding 54 = .ok (.aload_n 1, 1) := by decide +kernel
theorem dX0_fewestHolding_55 : decode cX0_fewestHolding 55 = .ok (.getfield 97, 3) := by decide +kernel
theorem dX0_fewestHolding_58 : decode cX0_fewestHolding 58 = .ok (.iload 7, 2) := by decide +kernel
theorem dX0_fewestHolding_60 : decode cX0_fewestHolding 60 = .ok (.invokevirtual 87, 3) := by decide +kernel
theorem dX0_fewestHolding_63 : decode cX0_fewestHolding 63 = .ok (.ifCond .eq 32, 3) := by decide +kernel
theorem dX0_fewestHolding_66 : decode cX0_fewestHolding 66 = .ok (.lload 4, 2) := by decide +kernel
theorem dX0_fewestHolding_68 : decode cX0_fewestHolding 68 = .ok (.aload_n 2, 1) := by decide +kernel
theorem dX0_fewestHolding_69 : decode cX0_fewestHolding 69 = .ok (.iload 7, 2) := by decide +kernel
theorem dX0_fewestHolding_71 : decode cX0_fewestHolding 71 = .ok (.aload_n 1, 1) := by decide +kernel
theorem dX0_fewestHolding_72 : decode cX0_fewestHolding 72 = .ok (.getfield 39, 3) := by decide +kernel
theorem dX0_fewestHolding_75 : decode cX0_fewestHolding 75 = .ok (.aload_n 1, 1) := by decide +kernel
theorem dX0_fewestHolding_76 : decode cX0_fewestHolding 76 = .ok (.getfield 44, 3) := by decide +kernel
theorem dX0_fewestHolding_79 : decode cX0_fewestHolding 79 = .ok (.invokevirtual 47, 3) := by decide +kernel
theorem dX0_fewestHolding_82 : decode cX0_fewestHolding 82 = .ok (.invokestatic 111, 3) := by decide +kernel
theorem dX0_fewestHolding_85 : decode cX0_fewestHolding 85 = .ok (.istore 8, 2) := by decide +kernel
theorem dX0_fewestHolding_87 : decode cX0_fewestHolding 87 = .ok (.aload_n 0, 1) := by decide +kernel
theorem dX0_fewestHolding_88 : decode cX0_fewestHolding 88 = .ok (.iload 8, 2) := by decide +kernel
theorem dX0_fewestHolding_90 : decode cX0_fewestHolding 90 = .ok (.iload 6, 2) := by decide +kernel
theorem dX0_fewestHolding_92 : decode cX0_fewestHolding 92 = .ok (.invokevirtual 115, 3) := by decide +kernel
theorem dX0_fewestHolding_95 : decode cX0_fewestHolding 95 = .ok (.iinc 7 1, 3) := by decide +kernel
theorem dX0_fewestHolding_98 : decode cX0_fewestHolding 98 = .ok (.goto (-53), 3) := by decide +kernel
theorem dX0_fewestHolding_101 : decode cX0_fewestHolding 101 = .ok (.iload 6, 2) := by decide +kernel
theorem dX0_fewestHolding_103 : decode cX0_fewestHolding 103 = .ok (.aload_n 0, 1) := by decide +kernel
theorem dX0_fewestHolding_104 : decode cX0_fewestHolding 104 = .ok (.getfield 22, 3) := by decide +kernel
theorem dX0_fewestHolding_107 : decode cX0_fewestHolding 107 = .ok (.arraylength, 1) := by decide +kernel
theorem dX0_fewestHolding_108 : decode cX0_fewestHolding 108 = .ok (.if_icmp .ge 25, 3) := by decide +kernel
theorem dX0_fewestHolding_111 : decode cX0_fewestHolding 111 = .ok (.aload_n 0, 1) := by decide +kernel
theorem dX0_fewestHolding_112 : decode cX0_fewestHolding 112 = .ok (.getfield 22, 3) := by decide +kernel
theorem dX0_fewestHolding_115 : decode cX0_fewestHolding 115 = .ok (.iload 6, 2) := by decide +kernel
theorem dX0_fewestHolding_117 : decode cX0_fewestHolding 117 = .ok (.iaload, 1) := by decide +kernel
theorem dX0_fewestHolding_118 : decode cX0_fewestHolding 118 = .ok (.ldc 104, 2) := by decide +kernel
theorem dX0_fewestHolding_120 : decode cX0_fewestHolding 120 = .ok (.if_icmp .ge 13, 3) := by decide +kernel
theorem dX0_fewestHolding_123 : decode cX0_fewestHolding 123 = .ok (.aload_n 0, 1) := by decide +kernel
theorem dX0_fewestHolding_124 : decode cX0_fewestHolding 124 = .ok (.getfield 22, 3) := by decide +kernel
theorem dX0_fewestHolding_127 : decode cX0_fewestHolding 127 = .ok (.iload 6, 2) := by decide +kernel
theorem dX0_fewestHolding_129 : decode cX0_fewestHolding 129 = .ok (.iaload, 1) := by decide +kernel
theorem dX0_fewestHolding_130 : decode cX0_fewestHolding 130 = .ok (.goto 4, 3) := by decide +kernel
theorem dX0_fewestHolding_133 : decode cX0_fewestHolding 133 = .ok (.iconst (-1), 1) := by decide +kernel
theorem dX0_fewestHolding_134 : decode cX0_fewestHolding 134 = .ok (.ireturn, 1) := by decide +kernel
theorem dX0_partOf_0 : decode cX0_partOf 0 = .ok (.iconst 0, 1) := by decide +kernel
theorem dX0_partOf_1 : decode cX0_partOf 1 = .ok (.istore 4, 2) := by decide +kernel
theorem dX0_partOf_3 : decode cX0_partOf 3 = .ok (.iconst 0, 1) := by decide +kernel
theorem dX0_partOf_4 : decode cX0_partOf 4 = .ok (.istore 5, 2) := by decide +kernel
theorem dX0_partOf_6 : decode cX0_partOf 6 = .ok (.iconst 0, 1) := by decide +kernel
theorem dX0_partOf_7 : decode cX0_partOf 7 = .ok (.istore 6, 2) := by decide +kernel
theorem dX0_partOf_9 : decode cX0_partOf 9 = .ok (.iload 6, 2) := by decide +kernel
theorem dX0_partOf_11 : decode cX0_partOf 11 = .ok (.bipush 64, 2) := by decide +kernel
theorem dX0_partOf_13 : decode cX0_partOf 13 = .ok (.if_icmp .ge 38, 3) := by decide +kernel
theorem dX0_partOf_16 : decode cX0_partOf 16 = .ok (.lload_n 0, 1) := by decide +kernel
theorem dX0_partOf_17 : decode cX0_partOf 17 = .ok (.iload 6, 2) := by decide +kernel
theorem dX0_partOf_19 : decode cX0_partOf 19 = .ok (.lushr, 1) := by decide +kernel
theorem dX0_partOf_20 : decode cX0_partOf 20 = .ok (.lconst 1, 1) := by decide +kernel
theorem dX0_partOf_21 : decode cX0_partOf 21 = .ok (.land, 1) := by decide +kernel
theorem dX0_partOf_22 : decode cX0_partOf 22 = .ok (.lconst 0, 1) := by decide +kernel
theorem dX0_partOf_23 : decode cX0_partOf 23 = .ok (.lcmp, 1) := by decide +kernel
theorem dX0_partOf_24 : decode cX0_partOf 24 = .ok (.ifCond .eq 21, 3) := by decide +kernel
theorem dX0_partOf_27 : decode cX0_partOf 27 = .ok (.iload 4, 2) := by decide +kernel
theorem dX0_partOf_29 : decode cX0_partOf 29 = .ok (.lload_n 2, 1) := by decide +kernel
theorem dX0_partOf_30 : decode cX0_partOf 30 = .ok (.iload 6, 2) := by decide +kernel
theorem dX0_partOf_32 : decode cX0_partOf 32 = .ok (.lushr, 1) := by decide +kernel
theorem dX0_partOf_33 : decode cX0_partOf 33 = .ok (.lconst 1, 1) := by decide +kernel
theorem dX0_partOf_34 : decode cX0_partOf 34 = .ok (.land, 1) := by decide +kernel
theorem dX0_partOf_35 : decode cX0_partOf 35 = .ok (.l2i, 1) := by decide +kernel
theorem dX0_partOf_36 : decode cX0_partOf 36 = .ok (.iload 5, 2) := by decide +kernel
theorem dX0_partOf_38 : decode cX0_partOf 38 = .ok (.ishl, 1) := by decide +kernel
theorem dX0_partOf_39 : decode cX0_partOf 39 = .ok (.ior, 1) := by decide +kernel
theorem dX0_partOf_40 : decode cX0_partOf 40 = .ok (.istore 4, 2) := by decide +kernel
theorem dX0_partOf_42 : decode cX0_partOf 42 = .ok (.iinc 5 1, 3) := by decide +kernel
theorem dX0_partOf_45 : decode cX0_partOf 45 = .ok (.iinc 6 1, 3) := by decide +kernel
theorem dX0_partOf_48 : decode cX0_partOf 48 = .ok (.goto (-39), 3) := by decide +kernel
theorem dX0_partOf_51 : decode cX0_partOf 51 = .ok (.iload 4, 2) := by decide +kernel
theorem dX0_partOf_53 : decode cX0_partOf 53 = .ok (.ireturn, 1) := by decide +kernel
theorem dX0_addPart_0 : decode cX0_addPart 0 = .ok (.iconst 0, 1) := by decide +kernel
theorem dX0_addPart_1 : decode cX0_addPart 1 = .ok (.istore_n 3, 1) := by decide +kernel
theorem dX0_addPart_2 : decode cX0_addPart 2 = .ok (.iload_n 3, 1) := by decide +kernel
theorem dX0_addPart_3 : decode cX0_addPart 3 = .ok (.iload_n 2, 1) := by decide +kernel
theorem dX0_addPart_4 : decode cX0_addPart 4 = .ok (.if_icmp .gt 56, 3) := by decide +kernel
theorem dX0_addPart_7 : decode cX0_addPart 7 = .ok (.iload_n 3, 1) := by decide +kernel
theorem dX0_addPart_8 : decode cX0_addPart 8 = .ok (.aload_n 0, 1) := by decide +kernel
theorem dX0_addPart_9 : decode cX0_addPart 9 = .ok (.getfield 22, 3) := by decide +kernel
theorem dX0_addPart_12 : decode cX0_addPart 12 = .ok (.arraylength, 1) := by decide +kernel
theorem dX0_addPart_13 : decode cX0_addPart 13 = .ok (.if_icmp .ge 47, 3) := by decide +kernel
theorem dX0_addPart_16 : decode cX0_addPart 16 = .ok (.iload_n 3, 1) := by decide +kernel
theorem dX0_addPart_17 : decode cX0_addPart 17 = .ok (.iload_n 1, 1) := by decide +kernel
theorem dX0_addPart_18 : decode cX0_addPart 18 = .ok (.ior, 1) := by decide +kernel
theorem dX0_addPart_19 : decode cX0_addPart 19 = .ok (.aload_n 0, 1) := by decide +kernel
theorem dX0_addPart_20 : decode cX0_addPart 20 = .ok (.getfield 22, 3) := by decide +kernel
theorem dX0_addPart_23 : decode cX0_addPart 23 = .ok (.arraylength, 1) := by decide +kernel
theorem dX0_addPart_24 : decode cX0_addPart 24 = .ok (.iconst 1, 1) := by decide +kernel
theorem dX0_addPart_25 : decode cX0_addPart 25 = .ok (.isub, 1) := by decide +kernel
theorem dX0_addPart_26 : decode cX0_addPart 26 = .ok (.iand, 1) := by decide +kernel
theorem dX0_addPart_27 : decode cX0_addPart 27 = .ok (.istore 4, 2) := by decide +kernel
theorem dX0_addPart_29 : decode cX0_addPart 29 = .ok (.aload_n 0, 1) := by decide +kernel
theorem dX0_addPart_30 : decode cX0_addPart 30 = .ok (.getfield 22, 3) := by decide +kernel
theorem dX0_addPart_33 : decode cX0_addPart 33 = .ok (.iload 4, 2) := by decide +kernel
theorem dX0_addPart_35 : decode cX0_addPart 35 = .ok (.aload_n 0, 1) := by decide +kernel
theorem dX0_addPart_36 : decode cX0_addPart 36 = .ok (.getfield 22, 3) := by decide +kernel
theorem dX0_addPart_39 : decode cX0_addPart 39 = .ok (.iload 4, 2) := by decide +kernel
theorem dX0_addPart_41 : decode cX0_addPart 41 = .ok (.iaload, 1) := by decide +kernel
theorem dX0_addPart_42 : decode cX0_addPart 42 = .ok (.aload_n 0, 1) := by decide +kernel
theorem dX0_addPart_43 : decode cX0_addPart 43 = .ok (.getfield 22, 3) := by decide +kernel
theorem dX0_addPart_46 : decode cX0_addPart 46 = .ok (.iload_n 3, 1) := by decide +kernel
theorem dX0_addPart_47 : decode cX0_addPart 47 = .ok (.iaload, 1) := by decide +kernel
theorem dX0_addPart_48 : decode cX0_addPart 48 = .ok (.iconst 1, 1) := by decide +kernel
theorem dX0_addPart_49 : decode cX0_addPart 49 = .ok (.iadd, 1) := by decide +kernel
theorem dX0_addPart_50 : decode cX0_addPart 50 = .ok (.invokestatic 32, 3) := by decide +kernel
theorem dX0_addPart_53 : decode cX0_addPart 53 = .ok (.iastore, 1) := by decide +kernel
theorem dX0_addPart_54 : decode cX0_addPart 54 = .ok (.iinc 3 1, 3) := by decide +kernel
theorem dX0_addPart_57 : decode cX0_addPart 57 = .ok (.goto (-55), 3) := by decide +kernel
theorem dX0_addPart_60 : decode cX0_addPart 60 = .ok (.return_, 1) := by decide +kernel
theorem dX0_findChosen_0 : decode cX0_findChosen 0 = .ok (.aload_n 0, 1) := by decide +kernel
theorem dX0_findChosen_1 : decode cX0_findChosen 1 = .ok (.aload_n 2, 1) := by decide +kernel
theorem dX0_findChosen_2 : decode cX0_findChosen 2 = .ok (.getfield 26, 3) := by decide +kernel
theorem dX0_findChosen_5 : decode cX0_findChosen 5 = .ok (.sipush 256, 3) := by decide +kernel
theorem dX0_findChosen_8 : decode cX0_findChosen 8 = .ok (.invokestatic 32, 3) := by decide +kernel
theorem dX0_findChosen_11 : decode cX0_findChosen 11 = .ok (.putfield 38, 3) := by decide +kernel
theorem dX0_findChosen_14 : decode cX0_findChosen 14 = .ok (.aload_n 0, 1) := by decide +kernel
theorem dX0_findChosen_15 : decode cX0_findChosen 15 = .ok (.iconst (-1), 1) := by decide +kernel
theorem dX0_findChosen_16 : decode cX0_findChosen 16 = .ok (.putfield 119, 3) := by decide +kernel
theorem dX0_findChosen_19 : decode cX0_findChosen 19 = .ok (.bipush 8, 2) := by decide +kernel
theorem dX0_findChosen_21 : decode cX0_findChosen 21 = .ok (.istore 4, 2) := by decide +kernel
theorem dX0_findChosen_23 : decode cX0_findChosen 23 = .ok (.iload 4, 2) := by decide +kernel
theorem dX0_findChosen_25 : decode cX0_findChosen 25 = .ok (.bipush 64, 2) := by decide +kernel
theorem dX0_findChosen_27 : decode cX0_findChosen 27 = .ok (.if_icmp .gt 56, 3) := by decide +kernel
theorem dX0_findChosen_30 : decode cX0_findChosen 30 = .ok (.aload_n 0, 1) := by decide +kernel
theorem dX0_findChosen_31 : decode cX0_findChosen 31 = .ok (.getfield 18, 3) := by decide +kernel
theorem dX0_findChosen_34 : decode cX0_findChosen 34 = .ok (.lconst 0, 1) := by decide +kernel
theorem dX0_findChosen_35 : decode cX0_findChosen 35 = .ok (.invokestatic 122, 3) := by decide +kernel
theorem dX0_findChosen_38 : decode cX0_findChosen 38 = .ok (.iconst 1, 1) := by decide +kernel
theorem dX0_findChosen_39 : decode cX0_findChosen 39 = .ok (.istore 5, 2) := by decide +kernel
theorem dX0_findChosen_41 : decode cX0_findChosen 41 = .ok (.iload 5, 2) := by decide +kernel
theorem dX0_findChosen_43 : decode cX0_findChosen 43 = .ok (.aload_n 2, 1) := by decide +kernel
theorem dX0_findChosen_44 : decode cX0_findChosen 44 = .ok (.getfield 125, 3) := by decide +kernel
theorem dX0_findChosen_47 : decode cX0_findChosen 47 = .ok (.if_icmp .gt 30, 3) := by decide +kernel
theorem dX0_findChosen_50 : decode cX0_findChosen 50 = .ok (.iload 4, 2) := by decide +kernel
theorem dX0_findChosen_52 : decode cX0_findChosen 52 = .ok (.iconst 4, 1) := by decide +kernel
theorem dX0_findChosen_53 : decode cX0_findChosen 53 = .ok (.iload 5, 2) := by decide +kernel
theorem dX0_findChosen_55 : decode cX0_findChosen 55 = .ok (.imul, 1) := by decide +kernel
theorem dX0_findChosen_56 : decode cX0_findChosen 56 = .ok (.iadd, 1) := by decide +kernel
theorem dX0_findChosen_57 : decode cX0_findChosen 57 = .ok (.iload_n 3, 1) := by decide +kernel
theorem dX0_findChosen_58 : decode cX0_findChosen 58 = .ok (.if_icmp .gt 19, 3) := by decide +kernel
theorem dX0_findChosen_61 : decode cX0_findChosen 61 = .ok (.aload_n 0, 1) := by decide +kernel
theorem dX0_findChosen_62 : decode cX0_findChosen 62 = .ok (.aload_n 1, 1) := by decide +kernel
theorem dX0_findChosen_63 : decode cX0_findChosen 63 = .ok (.aload_n 2, 1) := by decide +kernel
theorem dX0_findChosen_64 : decode cX0_findChosen 64 = .ok (.iload 4, 2) := by decide +kernel
theorem dX0_findChosen_66 : decode cX0_findChosen 66 = .ok (.iload 5, 2) := by decide +kernel
theorem dX0_findChosen_68 : decode cX0_findChosen 68 = .ok (.invokevirtual 126, 3) := by decide +kernel
theorem dX0_findChosen_71 : decode cX0_findChosen 71 = .ok (.iinc 5 1, 3) := by decide +kernel
theorem dX0_findChosen_74 : decode cX0_findChosen 74 = .ok (.goto (-33), 3) := by decide +kernel
theorem dX0_findChosen_77 : decode cX0_findChosen 77 = .ok (.iinc 4 8, 3) := by decide +kernel
theorem dX0_findChosen_80 : decode cX0_findChosen 80 = .ok (.goto (-57), 3) := by decide +kernel
theorem dX0_findChosen_83 : decode cX0_findChosen 83 = .ok (.aload_n 0, 1) := by decide +kernel
theorem dX0_findChosen_84 : decode cX0_findChosen 84 = .ok (.getfield 119, 3) := by decide +kernel
theorem dX0_findChosen_87 : decode cX0_findChosen 87 = .ok (.iconst (-1), 1) := by decide +kernel
theorem dX0_findChosen_88 : decode cX0_findChosen 88 = .ok (.if_icmp .eq 7, 3) := by decide +kernel
theorem dX0_findChosen_91 : decode cX0_findChosen 91 = .ok (.iconst 1, 1) := by decide +kernel
theorem dX0_findChosen_92 : decode cX0_findChosen 92 = .ok (.goto 4, 3) := by decide +kernel
theorem dX0_findChosen_95 : decode cX0_findChosen 95 = .ok (.iconst 0, 1) := by decide +kernel
theorem dX0_findChosen_96 : decode cX0_findChosen 96 = .ok (.ireturn, 1) := by decide +kernel
theorem dX0_weigh_0 : decode cX0_weigh 0 = .ok (.lconst 0, 1) := by decide +kernel
theorem dX0_weigh_1 : decode cX0_weigh 1 = .ok (.lstore 5, 2) := by decide +kernel
theorem dX0_weigh_3 : decode cX0_weigh 3 = .ok (.iconst 0, 1) := by decide +kernel
theorem dX0_weigh_4 : decode cX0_weigh 4 = .ok (.istore 7, 2) := by decide +kernel
theorem dX0_weigh_6 : decode cX0_weigh 6 = .ok (.iload 7, 2) := by decide +kernel
theorem dX0_weigh_8 : decode cX0_weigh 8 = .ok (.aload_n 0, 1) := by decide +kernel
theorem dX0_weigh_9 : decode cX0_weigh 9 = .ok (.getfield 38, 3) := by decide +kernel
theorem dX0_weigh_12 : decode cX0_weigh 12 = .ok (.if_icmp .ge 60, 3) := by decide +kernel
theorem dX0_weigh_15 : decode cX0_weigh 15 = .ok (.aload_n 0, 1) := by decide +kernel
theorem dX0_weigh_16 : decode cX0_weigh 16 = .ok (.getfield 18, 3) := by decide +kernel
theorem dX0_weigh_19 : decode cX0_weigh 19 = .ok (.iload 7, 2) := by decide +kernel
theorem dX0_weigh_21 : decode cX0_weigh 21 = .ok (.dup2, 1) := by decide +kernel
theorem dX0_weigh_22 : decode cX0_weigh 22 = .ok (.laload, 1) := by decide +kernel
theorem dX0_weigh_23 : decode cX0_weigh 23 = .ok (.lconst 1, 1) := by decide +kernel
theorem dX0_weigh_24 : decode cX0_weigh 24 = .ok (.aload_n 2, 1) := by decide +kernel
theorem dX0_weigh_25 : decode cX0_weigh 25 = .ok (.iload 4, 2) := by decide +kernel
theorem dX0_weigh_27 : decode cX0_weigh 27 = .ok (.iconst 1, 1) := by decide +kernel
theorem dX0_weigh_28 : decode cX0_weigh 28 = .ok (.isub, 1) := by decide +kernel
theorem dX0_weigh_29 : decode cX0_weigh 29 = .ok (.iload 7, 2) := by decide +kernel
theorem dX0_weigh_31 : decode cX0_weigh 31 = .ok (.iload_n 3, 1) := by decide +kernel
theorem dX0_weigh_32 : decode cX0_weigh 32 = .ok (.invokevirtual 130, 3) := by decide +kernel
theorem dX0_weigh_35 : decode cX0_weigh 35 = .ok (.lshl, 1) := by decide +kernel
theorem dX0_weigh_36 : decode cX0_weigh 36 = .ok (.lor, 1) := by decide +kernel
theorem dX0_weigh_37 : decode cX0_weigh 37 = .ok (.lastore, 1) := by decide +kernel
theorem dX0_weigh_38 : decode cX0_weigh 38 = .ok (.lload 5, 2) := by decide +kernel
theorem dX0_weigh_40 : decode cX0_weigh 40 = .ok (.aload_n 1, 1) := by decide +kernel
theorem dX0_weigh_41 : decode cX0_weigh 41 = .ok (.getfield 97, 3) := by decide +kernel
theorem dX0_weigh_44 : decode cX0_weigh 44 = .ok (.iload 7, 2) := by decide +kernel
theorem dX0_weigh_46 : decode cX0_weigh 46 = .ok (.invokevirtual 87, 3) := by decide +kernel
theorem dX0_weigh_49 : decode cX0_weigh 49 = .ok (.ifCond .eq 13, 3) := by decide +kernel
theorem dX0_weigh_52 : decode cX0_weigh 52 = .ok (.aload_n 0, 1) := by decide +kernel
theorem dX0_weigh_53 : decode cX0_weigh 53 = .ok (.getfield 18, 3) := by decide +kernel
theorem dX0_weigh_56 : decode cX0_weigh 56 = .ok (.iload 7, 2) := by decide +kernel
theorem dX0_weigh_58 : decode cX0_weigh 58 = .ok (.laload, 1) := by decide +kernel
theorem dX0_weigh_59 : decode cX0_weigh 59 = .ok (.goto 4, 3) := by decide +kernel
theorem dX0_weigh_62 : decode cX0_weigh 62 = .ok (.lconst 0, 1) := by decide +kernel
theorem dX0_weigh_63 : decode cX0_weigh 63 = .ok (.lor, 1) := by decide +kernel
theorem dX0_weigh_64 : decode cX0_weigh 64 = .ok (.lstore 5, 2) := by decide +kernel
theorem dX0_weigh_66 : decode cX0_weigh 66 = .ok (.iinc 7 1, 3) := by decide +kernel
theorem dX0_weigh_69 : decode cX0_weigh 69 = .ok (.goto (-63), 3) := by decide +kernel
theorem dX0_weigh_72 : decode cX0_weigh 72 = .ok (.aload_n 0, 1) := by decide +kernel
theorem dX0_weigh_73 : decode cX0_weigh 73 = .ok (.aload_n 1, 1) := by decide +kernel
theorem dX0_weigh_74 : decode cX0_weigh 74 = .ok (.getfield 97, 3) := by decide +kernel
theorem dX0_weigh_77 : decode cX0_weigh 77 = .ok (.lload 5, 2) := by decide +kernel
theorem dX0_weigh_79 : decode cX0_weigh 79 = .ok (.iconst (-1), 1) := by decide +kernel
theorem dX0_weigh_80 : decode cX0_weigh 80 = .ok (.invokevirtual 100, 3) := by decide +kernel
theorem dX0_weigh_83 : decode cX0_weigh 83 = .ok (.istore 7, 2) := by decide +kernel
theorem dX0_weigh_85 : decode cX0_weigh 85 = .ok (.iload_n 3, 1) := by decide +kernel
theorem dX0_weigh_86 : decode cX0_weigh 86 = .ok (.iconst 4, 1) := by decide +kernel
theorem dX0_weigh_87 : decode cX0_weigh 87 = .ok (.iload 4, 2) := by decide +kernel
theorem dX0_weigh_89 : decode cX0_weigh 89 = .ok (.imul, 1) := by decide +kernel
theorem dX0_weigh_90 : decode cX0_weigh 90 = .ok (.iadd, 1) := by decide +kernel
theorem dX0_weigh_91 : decode cX0_weigh 91 = .ok (.istore 8, 2) := by decide +kernel
theorem dX0_weigh_93 : decode cX0_weigh 93 = .ok (.aload_n 0, 1) := by decide +kernel
theorem dX0_weigh_94 : decode cX0_weigh 94 = .ok (.getfield 119, 3) := by decide +kernel
theorem dX0_weigh_97 : decode cX0_weigh 97 = .ok (.iconst (-1), 1) := by decide +kernel
theorem dX0_weigh_98 : decode cX0_weigh 98 = .ok (.if_icmp .eq 47, 3) := by decide +kernel
theorem dX0_weigh_101 : decode cX0_weigh 101 = .ok (.iload 7, 2) := by decide +kernel
theorem dX0_weigh_103 : decode cX0_weigh 103 = .ok (.aload_n 0, 1) := by decide +kernel
theorem dX0_weigh_104 : decode cX0_weigh 104 = .ok (.getfield 94, 3) := by decide +kernel
theorem dX0_weigh_107 : decode cX0_weigh 107 = .ok (.if_icmp .lt 38, 3) := by decide +kernel
theorem dX0_weigh_110 : decode cX0_weigh 110 = .ok (.iload 7, 2) := by decide +kernel
theorem dX0_weigh_112 : decode cX0_weigh 112 = .ok (.aload_n 0, 1) := by decide +kernel
theorem dX0_weigh_113 : decode cX0_weigh 113 = .ok (.getfield 94, 3) := by decide +kernel
theorem dX0_weigh_116 : decode cX0_weigh 116 = .ok (.if_icmp .ne 33, 3) := by decide +kernel
theorem dX0_weigh_119 : decode cX0_weigh 119 = .ok (.iload 8, 2) := by decide +kernel
theorem dX0_weigh_121 : decode cX0_weigh 121 = .ok (.aload_n 0, 1) := by decide +kernel
theorem dX0_weigh_122 : decode cX0_weigh 122 = .ok (.getfield 134, 3) := by decide +kernel
theorem dX0_weigh_125 : decode cX0_weigh 125 = .ok (.if_icmp .lt 20, 3) := by decide +kernel
theorem dX0_weigh_128 : decode cX0_weigh 128 = .ok (.iload 8, 2) := by decide +kernel
theorem dX0_weigh_130 : decode cX0_weigh 130 = .ok (.aload_n 0, 1) := by decide +kernel
theorem dX0_weigh_131 : decode cX0_weigh 131 = .ok (.getfield 134, 3) := by decide +kernel
theorem dX0_weigh_134 : decode cX0_weigh 134 = .ok (.if_icmp .ne 15, 3) := by decide +kernel
theorem dX0_weigh_137 : decode cX0_weigh 137 = .ok (.iload_n 3, 1) := by decide +kernel
theorem dX0_weigh_138 : decode cX0_weigh 138 = .ok (.aload_n 0, 1) := by decide +kernel
theorem dX0_weigh_139 : decode cX0_weigh 139 = .ok (.getfield 119, 3) := by decide +kernel
theorem dX0_weigh_142 : decode cX0_weigh 142 = .ok (.if_icmp .ge 7, 3) := by decide +kernel
theorem dX0_weigh_145 : decode cX0_weigh 145 = .ok (.iconst 1, 1) := by decide +kernel
theorem dX0_weigh_146 : decode cX0_weigh 146 = .ok (.goto 4, 3) := by decide +kernel
theorem dX0_weigh_149 : decode cX0_weigh 149 = .ok (.iconst 0, 1) := by decide +kernel
theorem dX0_weigh_150 : decode cX0_weigh 150 = .ok (.istore 9, 2) := by decide +kernel
theorem dX0_weigh_152 : decode cX0_weigh 152 = .ok (.iload 9, 2) := by decide +kernel
theorem dX0_weigh_154 : decode cX0_weigh 154 = .ok (.ifCond .eq 26, 3) := by decide +kernel
theorem dX0_weigh_157 : decode cX0_weigh 157 = .ok (.aload_n 0, 1) := by decide +kernel
theorem dX0_weigh_158 : decode cX0_weigh 158 = .ok (.iload_n 3, 1) := by decide +kernel
theorem dX0_weigh_159 : decode cX0_weigh 159 = .ok (.putfield 119, 3) := by decide +kernel
theorem dX0_weigh_162 : decode cX0_weigh 162 = .ok (.aload_n 0, 1) := by decide +kernel
theorem dX0_weigh_163 : decode cX0_weigh 163 = .ok (.iload 4, 2) := by decide +kernel
theorem dX0_weigh_165 : decode cX0_weigh 165 = .ok (.putfield 137, 3) := by decide +kernel
theorem dX0_weigh_168 : decode cX0_weigh 168 = .ok (.aload_n 0, 1) := by decide +kernel
theorem dX0_weigh_169 : decode cX0_weigh 169 = .ok (.iload 7, 2) := by decide +kernel
theorem dX0_weigh_171 : decode cX0_weigh 171 = .ok (.putfield 94, 3) := by decide +kernel
theorem dX0_weigh_174 : decode cX0_weigh 174 = .ok (.aload_n 0, 1) := by decide +kernel
theorem dX0_weigh_175 : decode cX0_weigh 175 = .ok (.iload 8, 2) := by decide +kernel
theorem dX0_weigh_177 : decode cX0_weigh 177 = .ok (.putfield 134, 3) := by decide +kernel
theorem dX0_weigh_180 : decode cX0_weigh 180 = .ok (.return_, 1) := by decide +kernel
theorem dX1_init_0 : decode cX1_init 0 = .ok (.aload_n 0, 1) := by decide +kernel
theorem dX1_init_1 : decode cX1_init 1 = .ok (.invokespecial 1, 3) := by decide +kernel
theorem dX1_init_4 : decode cX1_init 4 = .ok (.aload_n 0, 1) := by decide +kernel
theorem dX1_init_5 : decode cX1_init 5 = .ok (.new 7, 3) := by decide +kernel
theorem dX1_init_8 : decode cX1_init 8 = .ok (.dup, 1) := by decide +kernel
theorem dX1_init_9 : decode cX1_init 9 = .ok (.invokespecial 9, 3) := by decide +kernel
theorem dX1_init_12 : decode cX1_init 12 = .ok (.putfield 10, 3) := by decide +kernel
theorem dX1_init_15 : decode cX1_init 15 = .ok (.aload_n 0, 1) := by decide +kernel
theorem dX1_init_16 : decode cX1_init 16 = .ok (.new 7, 3) := by decide +kernel
theorem dX1_init_19 : decode cX1_init 19 = .ok (.dup, 1) := by decide +kernel
theorem dX1_init_20 : decode cX1_init 20 = .ok (.invokespecial 9, 3) := by decide +kernel
theorem dX1_init_23 : decode cX1_init 23 = .ok (.putfield 16, 3) := by decide +kernel
theorem dX1_init_26 : decode cX1_init 26 = .ok (.return_, 1) := by decide +kernel
theorem dX1_build_0 : decode cX1_build 0 = .ok (.aload_n 0, 1) := by decide +kernel
theorem dX1_build_1 : decode cX1_build 1 = .ok (.iconst 0, 1) := by decide +kernel
theorem dX1_build_2 : decode cX1_build 2 = .ok (.putfield 19, 3) := by decide +kernel
theorem dX1_build_5 : decode cX1_build 5 = .ok (.aload_n 0, 1) := by decide +kernel
theorem dX1_build_6 : decode cX1_build 6 = .ok (.iconst 0, 1) := by decide +kernel
theorem dX1_build_7 : decode cX1_build 7 = .ok (.putfield 23, 3) := by decide +kernel
theorem dX1_build_10 : decode cX1_build 10 = .ok (.aload_n 0, 1) := by decide +kernel
theorem dX1_build_11 : decode cX1_build 11 = .ok (.iconst 0, 1) := by decide +kernel
theorem dX1_build_12 : decode cX1_build 12 = .ok (.putfield 26, 3) := by decide +kernel
theorem dX1_build_15 : decode cX1_build 15 = .ok (.aload_n 0, 1) := by decide +kernel
theorem dX1_build_16 : decode cX1_build 16 = .ok (.getfield 10, 3) := by decide +kernel
theorem dX1_build_19 : decode cX1_build 19 = .ok (.astore 5, 2) := by decide +kernel
theorem dX1_build_21 : decode cX1_build 21 = .ok (.aload_n 0, 1) := by decide +kernel
theorem dX1_build_22 : decode cX1_build 22 = .ok (.getfield 16, 3) := by decide +kernel
theorem dX1_build_25 : decode cX1_build 25 = .ok (.astore 6, 2) := by decide +kernel
theorem dX1_build_27 : decode cX1_build 27 = .ok (.aload 5, 2) := by decide +kernel
theorem dX1_build_29 : decode cX1_build 29 = .ok (.aload_n 1, 1) := by decide +kernel
theorem dX1_build_30 : decode cX1_build 30 = .ok (.getfield 29, 3) := by decide +kernel
theorem dX1_build_33 : decode cX1_build 33 = .ok (.invokevirtual 34, 3) := by decide +kernel
theorem dX1_build_36 : decode cX1_build 36 = .ok (.aload_n 1, 1) := by decide +kernel
theorem dX1_build_37 : decode cX1_build 37 = .ok (.aload_n 3, 1) := by decide +kernel
theorem dX1_build_38 : decode cX1_build 38 = .ok (.aload 6, 2) := by decide +kernel
theorem dX1_build_40 : decode cX1_build 40 = .ok (.invokestatic 38, 3) := by decide +kernel
theorem dX1_build_43 : decode cX1_build 43 = .ok (.iconst 0, 1) := by decide +kernel
theorem dX1_build_44 : decode cX1_build 44 = .ok (.istore 7, 2) := by decide +kernel
theorem dX1_build_46 : decode cX1_build 46 = .ok (.iload 7, 2) := by decide +kernel
theorem dX1_build_48 : decode cX1_build 48 = .ok (.aload 4, 2) := by decide +kernel
theorem dX1_build_50 : decode cX1_build 50 = .ok (.getfield 42, 3) := by decide +kernel
theorem dX1_build_53 : decode cX1_build 53 = .ok (.if_icmp .ge 90, 3) := by decide +kernel
theorem dX1_build_56 : decode cX1_build 56 = .ok (.aload 4, 2) := by decide +kernel
theorem dX1_build_58 : decode cX1_build 58 = .ok (.iload 7, 2) := by decide +kernel
theorem dX1_build_60 : decode cX1_build 60 = .ok (.invokevirtual 47, 3) := by decide +kernel
theorem dX1_build_63 : decode cX1_build 63 = .ok (.l2i, 1) := by decide +kernel
theorem dX1_build_64 : decode cX1_build 64 = .ok (.istore 8, 2) := by decide +kernel
theorem dX1_build_66 : decode cX1_build 66 = .ok (.aload_n 0, 1) := by decide +kernel
theorem dX1_build_67 : decode cX1_build 67 = .ok (.dup, 1) := by decide +kernel
theorem dX1_build_68 : decode cX1_build 68 = .ok (.getfield 19, 3) := by decide +kernel
theorem dX1_build_71 : decode cX1_build 71 = .ok (.iconst 1, 1) := by decide +kernel
theorem dX1_build_72 : decode cX1_build 72 = .ok (.iadd, 1) := by decide +kernel
theorem dX1_build_73 : decode cX1_build 73 = .ok (.putfield 19, 3) := by decide +kernel
theorem dX1_build_76 : decode cX1_build 76 = .ok (.aload_n 0, 1) := by decide +kernel
theorem dX1_build_77 : decode cX1_build 77 = .ok (.dup, 1) := by decide +kernel
theorem dX1_build_78 : decode cX1_build 78 = .ok (.getfield 23, 3) := by decide +kernel
theorem dX1_build_81 : decode cX1_build 81 = .ok (.aload 5, 2) := by decide +kernel
theorem dX1_build_83 : decode cX1_build 83 = .ok (.invokevirtual 51, 3) := by decide +kernel
theorem dX1_build_86 : decode cX1_build 86 = .ok (.iadd, 1) := by decide +kernel
theorem dX1_build_87 : decode cX1_build 87 = .ok (.putfield 23, 3) := by decide +kernel
theorem dX1_build_90 : decode cX1_build 90 = .ok (.aload_n 0, 1) := by decide +kernel
theorem dX1_build_91 : decode cX1_build 91 = .ok (.dup, 1) := by decide +kernel
theorem dX1_build_92 : decode cX1_build 92 = .ok (.getfield 26, 3) := by decide +kernel
theorem dX1_build_95 : decode cX1_build 95 = .ok (.iload 8, 2) := by decide +kernel
theorem dX1_build_97 : decode cX1_build 97 = .ok (.iadd, 1) := by decide +kernel
theorem dX1_build_98 : decode cX1_build 98 = .ok (.putfield 26, 3) := by decide +kernel
theorem dX1_build_101 : decode cX1_build 101 = .ok (.aload_n 2, 1) := by decide +kernel
theorem dX1_build_102 : decode cX1_build 102 = .ok (.aload 5, 2) := by decide +kernel
theorem dX1_build_104 : decode cX1_build 104 = .ok (.aload 6, 2) := by decide +kernel
theorem dX1_build_106 : decode cX1_build 106 = .ok (.iload 8, 2) := by decide +kernel
theorem dX1_build_108 : decode cX1_build 108 = .ok (.aload_n 1, 1) := by decide +kernel
theorem dX1_build_109 : decode cX1_build 109 = .ok (.getfield 54, 3) := by decide +kernel
theorem dX1_build_112 : decode cX1_build 112 = .ok (.invokestatic 57, 3) := by decide +kernel
theorem dX1_build_115 : decode cX1_build 115 = .ok (.aload 6, 2) := by decide +kernel
theorem dX1_build_117 : decode cX1_build 117 = .ok (.invokevirtual 51, 3) := by decide +kernel
theorem dX1_build_120 : decode cX1_build 120 = .ok (.ifCond .ne 5, 3) := by decide +kernel
theorem dX1_build_123 : decode cX1_build 123 = .ok (.iconst 1, 1) := by decide +kernel
theorem dX1_build_124 : decode cX1_build 124 = .ok (.ireturn, 1) := by decide +kernel
theorem dX1_build_125 : decode cX1_build 125 = .ok (.aload 5, 2) := by decide +kernel
theorem dX1_build_127 : decode cX1_build 127 = .ok (.astore 9, 2) := by decide +kernel
theorem dX1_build_129 : decode cX1_build 129 = .ok (.aload 6, 2) := by decide +kernel
theorem dX1_build_131 : decode cX1_build 131 = .ok (.astore 5, 2) := by decide +kernel
theorem dX1_build_133 : decode cX1_build 133 = .ok (.aload 9, 2) := by decide +kernel
theorem dX1_build_135 : decode cX1_build 135 = .ok (.astore 6, 2) := by decide +kernel
theorem dX1_build_137 : decode cX1_build 137 = .ok (.iinc 7 1, 3) := by decide +kernel
theorem dX1_build_140 : decode cX1_build 140 = .ok (.goto (-94), 3) := by decide +kernel
theorem dX1_build_143 : decode cX1_build 143 = .ok (.iconst 0, 1) := by decide +kernel
theorem dX1_build_144 : decode cX1_build 144 = .ok (.ireturn, 1) := by decide +kernel
theorem dX1_gatherOutside_0 : decode cX1_gatherOutside 0 = .ok (.aload_n 2, 1) := by decide +kernel
theorem dX1_gatherOutside_1 : decode cX1_gatherOutside 1 = .ok (.invokevirtual 61, 3) := by decide +kernel
theorem dX1_gatherOutside_4 : decode cX1_gatherOutside 4 = .ok (.iconst 0, 1) := by decide +kernel
theorem dX1_gatherOutside_5 : decode cX1_gatherOutside 5 = .ok (.istore_n 3, 1) := by decide +kernel
theorem dX1_gatherOutside_6 : decode cX1_gatherOutside 6 = .ok (.iload_n 3, 1) := by decide +kernel
theorem dX1_gatherOutside_7 : decode cX1_gatherOutside 7 = .ok (.aload_n 1, 1) := by decide +kernel
theorem dX1_gatherOutside_8 : decode cX1_gatherOutside 8 = .ok (.getfield 42, 3) := by decide +kernel
theorem dX1_gatherOutside_11 : decode cX1_gatherOutside 11 = .ok (.if_icmp .ge 35, 3) := by decide +kernel
theorem dX1_gatherOutside_14 : decode cX1_gatherOutside 14 = .ok (.aload_n 1, 1) := by decide +kernel
theorem dX1_gatherOutside_15 : decode cX1_gatherOutside 15 = .ok (.iload_n 3, 1) := by decide +kernel
theorem dX1_gatherOutside_16 : decode cX1_gatherOutside 16 = .ok (.invokevirtual 47, 3) := by decide +kernel
theorem dX1_gatherOutside_19 : decode cX1_gatherOutside 19 = .ok (.l2i, 1) := by decide +kernel
theorem dX1_gatherOutside_20 : decode cX1_gatherOutside 20 = .ok (.istore 4, 2) := by decide +kernel
theorem dX1_gatherOutside_22 : decode cX1_gatherOutside 22 = .ok (.aload_n 0, 1) := by decide +kernel
theorem dX1_gatherOutside_23 : decode cX1_gatherOutside 23 = .ok (.getfield 29, 3) := by decide +kernel
theorem dX1_gatherOutside_26 : decode cX1_gatherOutside 26 = .ok (.iload 4, 2) := by decide +kernel
theorem dX1_gatherOutside_28 : decode cX1_gatherOutside 28 = .ok (.invokevirtual 64, 3) := by decide +kernel
theorem dX1_gatherOutside_31 : decode cX1_gatherOutside 31 = .ok (.ifCond .ne 9, 3) := by decide +kernel
theorem dX1_gatherOutside_34 : decode cX1_gatherOutside 34 = .ok (.aload_n 2, 1) := by decide +kernel
theorem dX1_gatherOutside_35 : decode cX1_gatherOutside 35 = .ok (.iload 4, 2) := by decide +kernel
theorem dX1_gatherOutside_37 : decode cX1_gatherOutside 37 = .ok (.invokevirtual 68, 3) := by decide +kernel
theorem dX1_gatherOutside_40 : decode cX1_gatherOutside 40 = .ok (.iinc 3 1, 3) := by decide +kernel
theorem dX1_gatherOutside_43 : decode cX1_gatherOutside 43 = .ok (.goto (-37), 3) := by decide +kernel
theorem dX1_gatherOutside_46 : decode cX1_gatherOutside 46 = .ok (.return_, 1) := by decide +kernel
theorem dX1_keepWronged_0 : decode cX1_keepWronged 0 = .ok (.lconst 0, 1) := by decide +kernel
theorem dX1_keepWronged_1 : decode cX1_keepWronged 1 = .ok (.lstore 5, 2) := by decide +kernel
theorem dX1_keepWronged_3 : decode cX1_keepWronged 3 = .ok (.iconst 0, 1) := by decide +kernel
theorem dX1_keepWronged_4 : decode cX1_keepWronged 4 = .ok (.istore 7, 2) := by decide +kernel
theorem dX1_keepWronged_6 : decode cX1_keepWronged 6 = .ok (.iload 7, 2) := by decide +kernel
theorem dX1_keepWronged_8 : decode cX1_keepWronged 8 = .ok (.aload_n 0, 1) := by decide +kernel
theorem dX1_keepWronged_9 : decode cX1_keepWronged 9 = .ok (.getfield 72, 3) := by decide +kernel
theorem dX1_keepWronged_12 : decode cX1_keepWronged 12 = .ok (.if_icmp .ge 32, 3) := by decide +kernel
theorem dX1_keepWronged_15 : decode cX1_keepWronged 15 = .ok (.aload_n 1, 1) := by decide +kernel
theorem dX1_keepWronged_16 : decode cX1_keepWronged 16 = .ok (.iload 7, 2) := by decide +kernel
theorem dX1_keepWronged_18 : decode cX1_keepWronged 18 = .ok (.invokevirtual 64, 3) := by decide +kernel
theorem dX1_keepWronged_21 : decode cX1_keepWronged 21 = .ok (.ifCond .eq 17, 3) := by decide +kernel
theorem dX1_keepWronged_24 : decode cX1_keepWronged 24 = .ok (.lload 5, 2) := by decide +kernel
theorem dX1_keepWronged_26 : decode cX1_keepWronged 26 = .ok (.aload_n 0, 1) := by decide +kernel
theorem dX1_keepWronged_27 : decode cX1_keepWronged 27 = .ok (.iload 7, 2) := by decide +kernel
theorem dX1_keepWronged_29 : decode cX1_keepWronged 29 = .ok (.iload_n 3, 1) := by decide +kernel
theorem dX1_keepWronged_30 : decode cX1_keepWronged 30 = .ok (.iload 4, 2) := by decide +kernel
theorem dX1_keepWronged_32 : decode cX1_keepWronged 32 = .ok (.invokevirtual 77, 3) := by decide +kernel
theorem dX1_keepWronged_35 : decode cX1_keepWronged 35 = .ok (.lor, 1) := by decide +kernel
theorem dX1_keepWronged_36 : decode cX1_keepWronged 36 = .ok (.lstore 5, 2) := by decide +kernel
theorem dX1_keepWronged_38 : decode cX1_keepWronged 38 = .ok (.iinc 7 1, 3) := by decide +kernel
theorem dX1_keepWronged_41 : decode cX1_keepWronged 41 = .ok (.goto (-35), 3) := by decide +kernel
theorem dX1_keepWronged_44 : decode cX1_keepWronged 44 = .ok (.iconst 0, 1) := by decide +kernel
theorem dX1_keepWronged_45 : decode cX1_keepWronged 45 = .ok (.istore 7, 2) := by decide +kernel
theorem dX1_keepWronged_47 : decode cX1_keepWronged 47 = .ok (.iload 7, 2) := by decide +kernel
theorem dX1_keepWronged_49 : decode cX1_keepWronged 49 = .ok (.aload_n 0, 1) := by decide +kernel
theorem dX1_keepWronged_50 : decode cX1_keepWronged 50 = .ok (.getfield 72, 3) := by decide +kernel
theorem dX1_keepWronged_53 : decode cX1_keepWronged 53 = .ok (.if_icmp .ge 45, 3) := by decide +kernel
theorem dX1_keepWronged_56 : decode cX1_keepWronged 56 = .ok (.aload_n 2, 1) := by decide +kernel
theorem dX1_keepWronged_57 : decode cX1_keepWronged 57 = .ok (.iload 7, 2) := by decide +kernel
theorem dX1_keepWronged_59 : decode cX1_keepWronged 59 = .ok (.invokevirtual 64, 3) := by decide +kernel
theorem dX1_keepWronged_62 : decode cX1_keepWronged 62 = .ok (.ifCond .eq 30, 3) := by decide +kernel
theorem dX1_keepWronged_65 : decode cX1_keepWronged 65 = .ok (.aload_n 0, 1) := by decide +kernel
theorem dX1_keepWronged_66 : decode cX1_keepWronged 66 = .ok (.iload 7, 2) := by decide +kernel
theorem dX1_keepWronged_68 : decode cX1_keepWronged 68 = .ok (.iload_n 3, 1) := by decide +kernel
theorem dX1_keepWronged_69 : decode cX1_keepWronged 69 = .ok (.iload 4, 2) := by decide +kernel
theorem dX1_keepWronged_71 : decode cX1_keepWronged 71 = .ok (.invokevirtual 77, 3) := by decide +kernel
theorem dX1_keepWronged_74 : decode cX1_keepWronged 74 = .ok (.lload 5, 2) := by decide +kernel
theorem dX1_keepWronged_76 : decode cX1_keepWronged 76 = .ok (.ldc2_w 81, 3) := by decide +kernel
theorem dX1_keepWronged_79 : decode cX1_keepWronged 79 = .ok (.lxor, 1) := by decide +kernel
theorem dX1_keepWronged_80 : decode cX1_keepWronged 80 = .ok (.land, 1) := by decide +kernel
theorem dX1_keepWronged_81 : decode cX1_keepWronged 81 = .ok (.lconst 0, 1) := by decide +kernel
theorem dX1_keepWronged_82 : decode cX1_keepWronged 82 = .ok (.lcmp, 1) := by decide +kernel
theorem dX1_keepWronged_83 : decode cX1_keepWronged 83 = .ok (.ifCond .eq 9, 3) := by decide +kernel
theorem dX1_keepWronged_86 : decode cX1_keepWronged 86 = .ok (.aload_n 2, 1) := by decide +kernel
theorem dX1_keepWronged_87 : decode cX1_keepWronged 87 = .ok (.iload 7, 2) := by decide +kernel
theorem dX1_keepWronged_89 : decode cX1_keepWronged 89 = .ok (.invokevirtual 83, 3) := by decide +kernel
theorem dX1_keepWronged_92 : decode cX1_keepWronged 92 = .ok (.iinc 7 1, 3) := by decide +kernel
theorem dX1_keepWronged_95 : decode cX1_keepWronged 95 = .ok (.goto (-48), 3) := by decide +kernel
theorem dX1_keepWronged_98 : decode cX1_keepWronged 98 = .ok (.return_, 1) := by decide +kernel
theorem dX2_init_0 : decode cX2_init 0 = .ok (.aload_n 0, 1) := by decide +kernel
theorem dX2_init_1 : decode cX2_init 1 = .ok (.invokespecial 3, 3) := by decide +kernel
theorem dX2_init_4 : decode cX2_init 4 = .ok (.aload_n 0, 1) := by decide +kernel
theorem dX2_init_5 : decode cX2_init 5 = .ok (.iconst 4, 1) := by decide +kernel
theorem dX2_init_6 : decode cX2_init 6 = .ok (.newarray .long, 2) := by decide +kernel
theorem dX2_init_8 : decode cX2_init 8 = .ok (.putfield 9, 3) := by decide +kernel
theorem dX2_init_11 : decode cX2_init 11 = .ok (.return_, 1) := by decide +kernel
theorem dX2_has_0 : decode cX2_has 0 = .ok (.iload_n 1, 1) := by decide +kernel
theorem dX2_has_1 : decode cX2_has 1 = .ok (.ifCond .lt 35, 3) := by decide +kernel
theorem dX2_has_4 : decode cX2_has 4 = .ok (.iload_n 1, 1) := by decide +kernel
theorem dX2_has_5 : decode cX2_has 5 = .ok (.sipush 256, 3) := by decide +kernel
theorem dX2_has_8 : decode cX2_has 8 = .ok (.if_icmp .ge 28, 3) := by decide +kernel
theorem dX2_has_11 : decode cX2_has 11 = .ok (.aload_n 0, 1) := by decide +kernel
theorem dX2_has_12 : decode cX2_has 12 = .ok (.getfield 9, 3) := by decide +kernel
theorem dX2_has_15 : decode cX2_has 15 = .ok (.iload_n 1, 1) := by decide +kernel
theorem dX2_has_16 : decode cX2_has 16 = .ok (.bipush 6, 2) := by decide +kernel
theorem dX2_has_18 : decode cX2_has 18 = .ok (.ishr, 1) := by decide +kernel
theorem dX2_has_19 : decode cX2_has 19 = .ok (.laload, 1) := by decide +kernel
theorem dX2_has_20 : decode cX2_has 20 = .ok (.iload_n 1, 1) := by decide +kernel
theorem dX2_has_21 : decode cX2_has 21 = .ok (.bipush 63, 2) := by decide +kernel
theorem dX2_has_23 : decode cX2_has 23 = .ok (.iand, 1) := by decide +kernel
theorem dX2_has_24 : decode cX2_has 24 = .ok (.lushr, 1) := by decide +kernel
theorem dX2_has_25 : decode cX2_has 25 = .ok (.lconst 1, 1) := by decide +kernel
theorem dX2_has_26 : decode cX2_has 26 = .ok (.land, 1) := by decide +kernel
theorem dX2_has_27 : decode cX2_has 27 = .ok (.lconst 0, 1) := by decide +kernel
theorem dX2_has_28 : decode cX2_has 28 = .ok (.lcmp, 1) := by decide +kernel
theorem dX2_has_29 : decode cX2_has 29 = .ok (.ifCond .eq 7, 3) := by decide +kernel
theorem dX2_has_32 : decode cX2_has 32 = .ok (.iconst 1, 1) := by decide +kernel
theorem dX2_has_33 : decode cX2_has 33 = .ok (.goto 4, 3) := by decide +kernel
theorem dX2_has_36 : decode cX2_has 36 = .ok (.iconst 0, 1) := by decide +kernel
theorem dX2_has_37 : decode cX2_has 37 = .ok (.ireturn, 1) := by decide +kernel
theorem dX2_add_0 : decode cX2_add 0 = .ok (.iload_n 1, 1) := by decide +kernel
theorem dX2_add_1 : decode cX2_add 1 = .ok (.ifCond .lt 28, 3) := by decide +kernel
theorem dX2_add_4 : decode cX2_add 4 = .ok (.iload_n 1, 1) := by decide +kernel
theorem dX2_add_5 : decode cX2_add 5 = .ok (.sipush 256, 3) := by decide +kernel
theorem dX2_add_8 : decode cX2_add 8 = .ok (.if_icmp .ge 21, 3) := by decide +kernel
theorem dX2_add_11 : decode cX2_add 11 = .ok (.aload_n 0, 1) := by decide +kernel
theorem dX2_add_12 : decode cX2_add 12 = .ok (.getfield 9, 3) := by decide +kernel
theorem dX2_add_15 : decode cX2_add 15 = .ok (.iload_n 1, 1) := by decide +kernel
theorem dX2_add_16 : decode cX2_add 16 = .ok (.bipush 6, 2) := by decide +kernel
theorem dX2_add_18 : decode cX2_add 18 = .ok (.ishr, 1) := by decide +kernel
theorem dX2_add_19 : decode cX2_add 19 = .ok (.dup2, 1) := by decide +kernel
theorem dX2_add_20 : decode cX2_add 20 = .ok (.laload, 1) := by decide +kernel
theorem dX2_add_21 : decode cX2_add 21 = .ok (.lconst 1, 1) := by decide +kernel
theorem dX2_add_22 : decode cX2_add 22 = .ok (.iload_n 1, 1) := by decide +kernel
theorem dX2_add_23 : decode cX2_add 23 = .ok (.bipush 63, 2) := by decide +kernel
theorem dX2_add_25 : decode cX2_add 25 = .ok (.iand, 1) := by decide +kernel
theorem dX2_add_26 : decode cX2_add 26 = .ok (.lshl, 1) := by decide +kernel
theorem dX2_add_27 : decode cX2_add 27 = .ok (.lor, 1) := by decide +kernel
theorem dX2_add_28 : decode cX2_add 28 = .ok (.lastore, 1) := by decide +kernel
theorem dX2_add_29 : decode cX2_add 29 = .ok (.return_, 1) := by decide +kernel
theorem dX2_remove_0 : decode cX2_remove 0 = .ok (.iload_n 1, 1) := by decide +kernel
theorem dX2_remove_1 : decode cX2_remove 1 = .ok (.ifCond .lt 32, 3) := by decide +kernel
theorem dX2_remove_4 : decode cX2_remove 4 = .ok (.iload_n 1, 1) := by decide +kernel
theorem dX2_remove_5 : decode cX2_remove 5 = .ok (.sipush 256, 3) := by decide +kernel
theorem dX2_remove_8 : decode cX2_remove 8 = .ok (.if_icmp .ge 25, 3) := by decide +kernel
theorem dX2_remove_11 : decode cX2_remove 11 = .ok (.aload_n 0, 1) := by decide +kernel
theorem dX2_remove_12 : decode cX2_remove 12 = .ok (.getfield 9, 3) := by decide +kernel
theorem dX2_remove_15 : decode cX2_remove 15 = .ok (.iload_n 1, 1) := by decide +kernel
theorem dX2_remove_16 : decode cX2_remove 16 = .ok (.bipush 6, 2) := by decide +kernel
theorem dX2_remove_18 : decode cX2_remove 18 = .ok (.ishr, 1) := by decide +kernel
theorem dX2_remove_19 : decode cX2_remove 19 = .ok (.dup2, 1) := by decide +kernel
theorem dX2_remove_20 : decode cX2_remove 20 = .ok (.laload, 1) := by decide +kernel
theorem dX2_remove_21 : decode cX2_remove 21 = .ok (.lconst 1, 1) := by decide +kernel
theorem dX2_remove_22 : decode cX2_remove 22 = .ok (.iload_n 1, 1) := by decide +kernel
theorem dX2_remove_23 : decode cX2_remove 23 = .ok (.bipush 63, 2) := by decide +kernel
theorem dX2_remove_25 : decode cX2_remove 25 = .ok (.iand, 1) := by decide +kernel
theorem dX2_remove_26 : decode cX2_remove 26 = .ok (.lshl, 1) := by decide +kernel
theorem dX2_remove_27 : decode cX2_remove 27 = .ok (.ldc2_w 15, 3) := by decide +kernel
theorem dX2_remove_30 : decode cX2_remove 30 = .ok (.lxor, 1) := by decide +kernel
theorem dX2_remove_31 : decode cX2_remove 31 = .ok (.land, 1) := by decide +kernel
theorem dX2_remove_32 : decode cX2_remove 32 = .ok (.lastore, 1) := by decide +kernel
theorem dX2_remove_33 : decode cX2_remove 33 = .ok (.return_, 1) := by decide +kernel
theorem dX2_clear_0 : decode cX2_clear 0 = .ok (.aload_n 0, 1) := by decide +kernel
theorem dX2_clear_1 : decode cX2_clear 1 = .ok (.getfield 9, 3) := by decide +kernel
theorem dX2_clear_4 : decode cX2_clear 4 = .ok (.lconst 0, 1) := by decide +kernel
theorem dX2_clear_5 : decode cX2_clear 5 = .ok (.invokestatic 17, 3) := by decide +kernel
theorem dX2_clear_8 : decode cX2_clear 8 = .ok (.return_, 1) := by decide +kernel
theorem dX2_many_0 : decode cX2_many 0 = .ok (.iconst 0, 1) := by decide +kernel
theorem dX2_many_1 : decode cX2_many 1 = .ok (.istore_n 1, 1) := by decide +kernel
theorem dX2_many_2 : decode cX2_many 2 = .ok (.iconst 0, 1) := by decide +kernel
theorem dX2_many_3 : decode cX2_many 3 = .ok (.istore_n 2, 1) := by decide +kernel
theorem dX2_many_4 : decode cX2_many 4 = .ok (.iload_n 2, 1) := by decide +kernel
theorem dX2_many_5 : decode cX2_many 5 = .ok (.aload_n 0, 1) := by decide +kernel
theorem dX2_many_6 : decode cX2_many 6 = .ok (.getfield 9, 3) := by decide +kernel
theorem dX2_many_9 : decode cX2_many 9 = .ok (.arraylength, 1) := by decide +kernel
theorem dX2_many_10 : decode cX2_many 10 = .ok (.if_icmp .ge 21, 3) := by decide +kernel
theorem dX2_many_13 : decode cX2_many 13 = .ok (.iload_n 1, 1) := by decide +kernel
theorem dX2_many_14 : decode cX2_many 14 = .ok (.aload_n 0, 1) := by decide +kernel
theorem dX2_many_15 : decode cX2_many 15 = .ok (.getfield 9, 3) := by decide +kernel
theorem dX2_many_18 : decode cX2_many 18 = .ok (.iload_n 2, 1) := by decide +kernel
theorem dX2_many_19 : decode cX2_many 19 = .ok (.laload, 1) := by decide +kernel
theorem dX2_many_20 : decode cX2_many 20 = .ok (.invokestatic 23, 3) := by decide +kernel
theorem dX2_many_23 : decode cX2_many 23 = .ok (.iadd, 1) := by decide +kernel
theorem dX2_many_24 : decode cX2_many 24 = .ok (.istore_n 1, 1) := by decide +kernel
theorem dX2_many_25 : decode cX2_many 25 = .ok (.iinc 2 1, 3) := by decide +kernel
theorem dX2_many_28 : decode cX2_many 28 = .ok (.goto (-24), 3) := by decide +kernel
theorem dX2_many_31 : decode cX2_many 31 = .ok (.iload_n 1, 1) := by decide +kernel
theorem dX2_many_32 : decode cX2_many 32 = .ok (.ireturn, 1) := by decide +kernel
theorem dX2_addAll_0 : decode cX2_addAll 0 = .ok (.iconst 0, 1) := by decide +kernel
theorem dX2_addAll_1 : decode cX2_addAll 1 = .ok (.istore_n 2, 1) := by decide +kernel
theorem dX2_addAll_2 : decode cX2_addAll 2 = .ok (.iload_n 2, 1) := by decide +kernel
theorem dX2_addAll_3 : decode cX2_addAll 3 = .ok (.aload_n 0, 1) := by decide +kernel
theorem dX2_addAll_4 : decode cX2_addAll 4 = .ok (.getfield 9, 3) := by decide +kernel
theorem dX2_addAll_7 : decode cX2_addAll 7 = .ok (.arraylength, 1) := by decide +kernel
theorem dX2_addAll_8 : decode cX2_addAll 8 = .ok (.if_icmp .ge 24, 3) := by decide +kernel
theorem dX2_addAll_11 : decode cX2_addAll 11 = .ok (.aload_n 0, 1) := by decide +kernel
theorem dX2_addAll_12 : decode cX2_addAll 12 = .ok (.getfield 9, 3) := by decide +kernel
theorem dX2_addAll_15 : decode cX2_addAll 15 = .ok (.iload_n 2, 1) := by decide +kernel
theorem dX2_addAll_16 : decode cX2_addAll 16 = .ok (.dup2, 1) := by decide +kernel
theorem dX2_addAll_17 : decode cX2_addAll 17 = .ok (.laload, 1) := by decide +kernel
theorem dX2_addAll_18 : decode cX2_addAll 18 = .ok (.aload_n 1, 1) := by decide +kernel
theorem dX2_addAll_19 : decode cX2_addAll 19 = .ok (.getfield 9, 3) := by decide +kernel
theorem dX2_addAll_22 : decode cX2_addAll 22 = .ok (.iload_n 2, 1) := by decide +kernel
theorem dX2_addAll_23 : decode cX2_addAll 23 = .ok (.laload, 1) := by decide +kernel
theorem dX2_addAll_24 : decode cX2_addAll 24 = .ok (.lor, 1) := by decide +kernel
theorem dX2_addAll_25 : decode cX2_addAll 25 = .ok (.lastore, 1) := by decide +kernel
theorem dX2_addAll_26 : decode cX2_addAll 26 = .ok (.iinc 2 1, 3) := by decide +kernel
theorem dX2_addAll_29 : decode cX2_addAll 29 = .ok (.goto (-27), 3) := by decide +kernel
theorem dX2_addAll_32 : decode cX2_addAll 32 = .ok (.return_, 1) := by decide +kernel
theorem dX2_copyFrom_0 : decode cX2_copyFrom 0 = .ok (.aload_n 1, 1) := by decide +kernel
theorem dX2_copyFrom_1 : decode cX2_copyFrom 1 = .ok (.getfield 9, 3) := by decide +kernel
theorem dX2_copyFrom_4 : decode cX2_copyFrom 4 = .ok (.iconst 0, 1) := by decide +kernel
theorem dX2_copyFrom_5 : decode cX2_copyFrom 5 = .ok (.aload_n 0, 1) := by decide +kernel
theorem dX2_copyFrom_6 : decode cX2_copyFrom 6 = .ok (.getfield 9, 3) := by decide +kernel
theorem dX2_copyFrom_9 : decode cX2_copyFrom 9 = .ok (.iconst 0, 1) := by decide +kernel
theorem dX2_copyFrom_10 : decode cX2_copyFrom 10 = .ok (.aload_n 0, 1) := by decide +kernel
theorem dX2_copyFrom_11 : decode cX2_copyFrom 11 = .ok (.getfield 9, 3) := by decide +kernel
theorem dX2_copyFrom_14 : decode cX2_copyFrom 14 = .ok (.arraylength, 1) := by decide +kernel
theorem dX2_copyFrom_15 : decode cX2_copyFrom 15 = .ok (.invokestatic 29, 3) := by decide +kernel
theorem dX2_copyFrom_18 : decode cX2_copyFrom 18 = .ok (.return_, 1) := by decide +kernel
theorem dX3_init_0 : decode cX3_init 0 = .ok (.aload_n 0, 1) := by decide +kernel
theorem dX3_init_1 : decode cX3_init 1 = .ok (.invokespecial 3, 3) := by decide +kernel
theorem dX3_init_4 : decode cX3_init 4 = .ok (.aload_n 0, 1) := by decide +kernel
theorem dX3_init_5 : decode cX3_init 5 = .ok (.bipush 16, 2) := by decide +kernel
theorem dX3_init_7 : decode cX3_init 7 = .ok (.newarray .int, 2) := by decide +kernel
theorem dX3_init_9 : decode cX3_init 9 = .ok (.putfield 9, 3) := by decide +kernel
theorem dX3_init_12 : decode cX3_init 12 = .ok (.aload_n 0, 1) := by decide +kernel
theorem dX3_init_13 : decode cX3_init 13 = .ok (.bipush 16, 2) := by decide +kernel
theorem dX3_init_15 : decode cX3_init 15 = .ok (.newarray .int, 2) := by decide +kernel
theorem dX3_init_17 : decode cX3_init 17 = .ok (.putfield 15, 3) := by decide +kernel
theorem dX3_init_20 : decode cX3_init 20 = .ok (.aload_n 0, 1) := by decide +kernel
theorem dX3_init_21 : decode cX3_init 21 = .ok (.bipush 16, 2) := by decide +kernel
theorem dX3_init_23 : decode cX3_init 23 = .ok (.newarray .int, 2) := by decide +kernel
theorem dX3_init_25 : decode cX3_init 25 = .ok (.putfield 18, 3) := by decide +kernel
theorem dX3_init_28 : decode cX3_init 28 = .ok (.aload_n 0, 1) := by decide +kernel
theorem dX3_init_29 : decode cX3_init 29 = .ok (.bipush 64, 2) := by decide +kernel
theorem dX3_init_31 : decode cX3_init 31 = .ok (.newarray .int, 2) := by decide +kernel
theorem dX3_init_33 : decode cX3_init 33 = .ok (.putfield 21, 3) := by decide +kernel
theorem dX3_init_36 : decode cX3_init 36 = .ok (.return_, 1) := by decide +kernel
theorem dX3_settle_0 : decode cX3_settle 0 = .ok (.aload_n 2, 1) := by decide +kernel
theorem dX3_settle_1 : decode cX3_settle 1 = .ok (.iconst 0, 1) := by decide +kernel
theorem dX3_settle_2 : decode cX3_settle 2 = .ok (.iload_n 3, 1) := by decide +kernel
theorem dX3_settle_3 : decode cX3_settle 3 = .ok (.aload_n 1, 1) := by decide +kernel
theorem dX3_settle_4 : decode cX3_settle 4 = .ok (.getfield 24, 3) := by decide +kernel
theorem dX3_settle_7 : decode cX3_settle 7 = .ok (.invokevirtual 30, 3) := by decide +kernel
theorem dX3_settle_10 : decode cX3_settle 10 = .ok (.istore 4, 2) := by decide +kernel
theorem dX3_settle_12 : decode cX3_settle 12 = .ok (.aload_n 2, 1) := by decide +kernel
theorem dX3_settle_13 : decode cX3_settle 13 = .ok (.iconst 1, 1) := by decide +kernel
theorem dX3_settle_14 : decode cX3_settle 14 = .ok (.iload_n 3, 1) := by decide +kernel
theorem dX3_settle_15 : decode cX3_settle 15 = .ok (.aload_n 1, 1) := by decide +kernel
theorem dX3_settle_16 : decode cX3_settle 16 = .ok (.getfield 24, 3) := by decide +kernel
theorem dX3_settle_19 : decode cX3_settle 19 = .ok (.invokevirtual 30, 3) := by decide +kernel
theorem dX3_settle_22 : decode cX3_settle 22 = .ok (.istore 5, 2) := by decide +kernel
theorem dX3_settle_24 : decode cX3_settle 24 = .ok (.aload_n 1, 1) := by decide +kernel
theorem dX3_settle_25 : decode cX3_settle 25 = .ok (.iload 4, 2) := by decide +kernel
theorem dX3_settle_27 : decode cX3_settle 27 = .ok (.invokevirtual 36, 3) := by decide +kernel
theorem dX3_settle_30 : decode cX3_settle 30 = .ok (.iconst (-1), 1) := by decide +kernel
theorem dX3_settle_31 : decode cX3_settle 31 = .ok (.if_icmp .eq 8, 3) := by decide +kernel
theorem dX3_settle_34 : decode cX3_settle 34 = .ok (.iload 4, 2) := by decide +kernel
theorem dX3_settle_36 : decode cX3_settle 36 = .ok (.goto 5, 3) := by decide +kernel
theorem dX3_settle_39 : decode cX3_settle 39 = .ok (.iload 5, 2) := by decide +kernel
theorem dX3_settle_41 : decode cX3_settle 41 = .ok (.istore 6, 2) := by decide +kernel
theorem dX3_settle_43 : decode cX3_settle 43 = .ok (.aload_n 1, 1) := by decide +kernel
theorem dX3_settle_44 : decode cX3_settle 44 = .ok (.iload 6, 2) := by decide +kernel
theorem dX3_settle_46 : decode cX3_settle 46 = .ok (.invokevirtual 36, 3) := by decide +kernel
theorem dX3_settle_49 : decode cX3_settle 49 = .ok (.istore 7, 2) := by decide +kernel
theorem dX3_settle_51 : decode cX3_settle 51 = .ok (.iload 7, 2) := by decide +kernel
theorem dX3_settle_53 : decode cX3_settle 53 = .ok (.iconst (-1), 1) := by decide +kernel
theorem dX3_settle_54 : decode cX3_settle 54 = .ok (.if_icmp .eq 19, 3) := by decide +kernel
theorem dX3_settle_57 : decode cX3_settle 57 = .ok (.aload_n 1, 1) := by decide +kernel
theorem dX3_settle_58 : decode cX3_settle 58 = .ok (.iload 6, 2) := by decide +kernel
theorem dX3_settle_60 : decode cX3_settle 60 = .ok (.iload 7, 2) := by decide +kernel
theorem dX3_settle_62 : decode cX3_settle 62 = .ok (.iload_n 3, 1) := by decide +kernel
theorem dX3_settle_63 : decode cX3_settle 63 = .ok (.invokevirtual 40, 3) := by decide +kernel
theorem dX3_settle_66 : decode cX3_settle 66 = .ok (.aload_n 1, 1) := by decide +kernel
theorem dX3_settle_67 : decode cX3_settle 67 = .ok (.iconst 0, 1) := by decide +kernel
theorem dX3_settle_68 : decode cX3_settle 68 = .ok (.putfield 44, 3) := by decide +kernel
theorem dX3_settle_71 : decode cX3_settle 71 = .ok (.iconst 1, 1) := by decide +kernel
theorem dX3_settle_72 : decode cX3_settle 72 = .ok (.ireturn, 1) := by decide +kernel
theorem dX3_settle_73 : decode cX3_settle 73 = .ok (.aload_n 0, 1) := by decide +kernel
theorem dX3_settle_74 : decode cX3_settle 74 = .ok (.aload_n 1, 1) := by decide +kernel
theorem dX3_settle_75 : decode cX3_settle 75 = .ok (.aload_n 2, 1) := by decide +kernel
theorem dX3_settle_76 : decode cX3_settle 76 = .ok (.iload 4, 2) := by decide +kernel
theorem dX3_settle_78 : decode cX3_settle 78 = .ok (.iload 5, 2) := by decide +kernel
theorem dX3_settle_80 : decode cX3_settle 80 = .ok (.invokevirtual 47, 3) := by decide +kernel
theorem dX3_settle_83 : decode cX3_settle 83 = .ok (.istore 8, 2) := by decide +kernel
theorem dX3_settle_85 : decode cX3_settle 85 = .ok (.iload 8, 2) := by decide +kernel
theorem dX3_settle_87 : decode cX3_settle 87 = .ok (.iconst (-1), 1) := by decide +kernel
theorem dX3_settle_88 : decode cX3_settle 88 = .ok (.if_icmp .ne 5, 3) := by decide +kernel
theorem dX3_settle_91 : decode cX3_settle 91 = .ok (.iconst 0, 1) := by decide +kernel
theorem dX3_settle_92 : decode cX3_settle 92 = .ok (.ireturn, 1) := by decide +kernel
theorem dX3_settle_93 : decode cX3_settle 93 = .ok (.aload_n 1, 1) := by decide +kernel
theorem dX3_settle_94 : decode cX3_settle 94 = .ok (.aload_n 0, 1) := by decide +kernel
theorem dX3_settle_95 : decode cX3_settle 95 = .ok (.aload_n 1, 1) := by decide +kernel
theorem dX3_settle_96 : decode cX3_settle 96 = .ok (.iload 8, 2) := by decide +kernel
theorem dX3_settle_98 : decode cX3_settle 98 = .ok (.iload_n 3, 1) := by decide +kernel
theorem dX3_settle_99 : decode cX3_settle 99 = .ok (.invokevirtual 51, 3) := by decide +kernel
theorem dX3_settle_102 : decode cX3_settle 102 = .ok (.putfield 44, 3) := by decide +kernel
theorem dX3_settle_105 : decode cX3_settle 105 = .ok (.iconst 1, 1) := by decide +kernel
theorem dX3_settle_106 : decode cX3_settle 106 = .ok (.ireturn, 1) := by decide +kernel
theorem dX3_search_0 : decode cX3_search 0 = .ok (.aload_n 0, 1) := by decide +kernel
theorem dX3_search_1 : decode cX3_search 1 = .ok (.iconst 0, 1) := by decide +kernel
theorem dX3_search_2 : decode cX3_search 2 = .ok (.putfield 55, 3) := by decide +kernel
theorem dX3_search_5 : decode cX3_search 5 = .ok (.aload_n 0, 1) := by decide +kernel
theorem dX3_search_6 : decode cX3_search 6 = .ok (.iconst 0, 1) := by decide +kernel
theorem dX3_search_7 : decode cX3_search 7 = .ok (.putfield 58, 3) := by decide +kernel
theorem dX3_search_10 : decode cX3_search 10 = .ok (.aload_n 0, 1) := by decide +kernel
theorem dX3_search_11 : decode cX3_search 11 = .ok (.iload_n 3, 1) := by decide +kernel
theorem dX3_search_12 : decode cX3_search 12 = .ok (.iconst (-1), 1) := by decide +kernel
theorem dX3_search_13 : decode cX3_search 13 = .ok (.iconst (-1), 1) := by decide +kernel
theorem dX3_search_14 : decode cX3_search 14 = .ok (.invokevirtual 61, 3) := by decide +kernel
theorem dX3_search_17 : decode cX3_search 17 = .ok (.pop, 1) := by decide +kernel
theorem dX3_search_18 : decode cX3_search 18 = .ok (.aload_n 0, 1) := by decide +kernel
theorem dX3_search_19 : decode cX3_search 19 = .ok (.iload 4, 2) := by decide +kernel
theorem dX3_search_21 : decode cX3_search 21 = .ok (.iconst (-1), 1) := by decide +kernel
theorem dX3_search_22 : decode cX3_search 22 = .ok (.iconst (-1), 1) := by decide +kernel
theorem dX3_search_23 : decode cX3_search 23 = .ok (.invokevirtual 61, 3) := by decide +kernel
theorem dX3_search_26 : decode cX3_search 26 = .ok (.pop, 1) := by decide +kernel
theorem dX3_search_27 : decode cX3_search 27 = .ok (.iconst 0, 1) := by decide +kernel
theorem dX3_search_28 : decode cX3_search 28 = .ok (.istore 5, 2) := by decide +kernel
theorem dX3_search_30 : decode cX3_search 30 = .ok (.iload 5, 2) := by decide +kernel
theorem dX3_search_32 : decode cX3_search 32 = .ok (.aload_n 0, 1) := by decide +kernel
theorem dX3_search_33 : decode cX3_search 33 = .ok (.getfield 55, 3) := by decide +kernel
theorem dX3_search_36 : decode cX3_search 36 = .ok (.if_icmp .ge 95, 3) := by decide +kernel
theorem dX3_search_39 : decode cX3_search 39 = .ok (.iload 5, 2) := by decide +kernel
theorem dX3_search_41 : decode cX3_search 41 = .ok (.aload_n 0, 1) := by decide +kernel
theorem dX3_search_42 : decode cX3_search 42 = .ok (.getfield 9, 3) := by decide +kernel
theorem dX3_search_45 : decode cX3_search 45 = .ok (.arraylength, 1) := by decide +kernel
theorem dX3_search_46 : decode cX3_search 46 = .ok (.if_icmp .ge 85, 3) := by decide +kernel
theorem dX3_search_49 : decode cX3_search 49 = .ok (.iconst 0, 1) := by decide +kernel
theorem dX3_search_50 : decode cX3_search 50 = .ok (.istore 6, 2) := by decide +kernel
theorem dX3_search_52 : decode cX3_search 52 = .ok (.iload 6, 2) := by decide +kernel
theorem dX3_search_54 : decode cX3_search 54 = .ok (.aload_n 1, 1) := by decide +kernel
theorem dX3_search_55 : decode cX3_search 55 = .ok (.getfield 65, 3) := by decide +kernel
theorem dX3_search_58 : decode cX3_search 58 = .ok (.if_icmp .ge 67, 3) := by decide +kernel
theorem dX3_search_61 : decode cX3_search 61 = .ok (.aload_n 1, 1) := by decide +kernel
theorem dX3_search_62 : decode cX3_search 62 = .ok (.aload_n 2, 1) := by decide +kernel
theorem dX3_search_63 : decode cX3_search 63 = .ok (.aload_n 0, 1) := by decide +kernel
theorem dX3_search_64 : decode cX3_search 64 = .ok (.getfield 9, 3) := by decide +kernel
theorem dX3_search_67 : decode cX3_search 67 = .ok (.iload 5, 2) := by decide +kernel
theorem dX3_search_69 : decode cX3_search 69 = .ok (.iaload, 1) := by decide +kernel
theorem dX3_search_70 : decode cX3_search 70 = .ok (.aload_n 1, 1) := by decide +kernel
theorem dX3_search_71 : decode cX3_search 71 = .ok (.aload_n 0, 1) := by decide +kernel
theorem dX3_search_72 : decode cX3_search 72 = .ok (.getfield 9, 3) := by decide +kernel
theorem dX3_search_75 : decode cX3_search 75 = .ok (.iload 5, 2) := by decide +kernel
theorem dX3_search_77 : decode cX3_search 77 = .ok (.iaload, 1) := by decide +kernel
theorem dX3_search_78 : decode cX3_search 78 = .ok (.iload 6, 2) := by decide +kernel
theorem dX3_search_80 : decode cX3_search 80 = .ok (.invokevirtual 68, 3) := by decide +kernel
theorem dX3_search_83 : decode cX3_search 83 = .ok (.invokestatic 72, 3) := by decide +kernel
theorem dX3_search_86 : decode cX3_search 86 = .ok (.istore 7, 2) := by decide +kernel
theorem dX3_search_88 : decode cX3_search 88 = .ok (.aload_n 0, 1) := by decide +kernel
theorem dX3_search_89 : decode cX3_search 89 = .ok (.iload 7, 2) := by decide +kernel
theorem dX3_search_91 : decode cX3_search 91 = .ok (.aload_n 0, 1) := by decide +kernel
theorem dX3_search_92 : decode cX3_search 92 = .ok (.getfield 9, 3) := by decide +kernel
theorem dX3_search_95 : decode cX3_search 95 = .ok (.iload 5, 2) := by decide +kernel
theorem dX3_search_97 : decode cX3_search 97 = .ok (.iaload, 1) := by decide +kernel
theorem dX3_search_98 : decode cX3_search 98 = .ok (.iload 6, 2) := by decide +kernel
theorem dX3_search_100 : decode cX3_search 100 = .ok (.invokevirtual 61, 3) := by decide +kernel
theorem dX3_search_103 : decode cX3_search 103 = .ok (.ifCond .eq 16, 3) := by decide +kernel
theorem dX3_search_106 : decode cX3_search 106 = .ok (.aload_n 1, 1) := by decide +kernel
theorem dX3_search_107 : decode cX3_search 107 = .ok (.iload 7, 2) := by decide +kernel
theorem dX3_search_109 : decode cX3_search 109 = .ok (.invokevirtual 36, 3) := by decide +kernel
theorem dX3_search_112 : decode cX3_search 112 = .ok (.iconst (-1), 1) := by decide +kernel
theorem dX3_search_113 : decode cX3_search 113 = .ok (.if_icmp .eq 6, 3) := by decide +kernel
theorem dX3_search_116 : decode cX3_search 116 = .ok (.iload 7, 2) := by decide +kernel
theorem dX3_search_118 : decode cX3_search 118 = .ok (.ireturn, 1) := by decide +kernel
theorem dX3_search_119 : decode cX3_search 119 = .ok (.iinc 6 1, 3) := by decide +kernel
theorem dX3_search_122 : decode cX3_search 122 = .ok (.goto (-70), 3) := by decide +kernel
theorem dX3_search_125 : decode cX3_search 125 = .ok (.iinc 5 1, 3) := by decide +kernel
theorem dX3_search_128 : decode cX3_search 128 = .ok (.goto (-98), 3) := by decide +kernel
theorem dX3_search_131 : decode cX3_search 131 = .ok (.iconst (-1), 1) := by decide +kernel
theorem dX3_search_132 : decode cX3_search 132 = .ok (.ireturn, 1) := by decide +kernel
theorem dX3_reach_0 : decode cX3_reach 0 = .ok (.iload_n 1, 1) := by decide +kernel
theorem dX3_reach_1 : decode cX3_reach 1 = .ok (.ifCond .lt 29, 3) := by decide +kernel
theorem dX3_reach_4 : decode cX3_reach 4 = .ok (.iload_n 1, 1) := by decide +kernel
theorem dX3_reach_5 : decode cX3_reach 5 = .ok (.bipush 16, 2) := by decide +kernel
theorem dX3_reach_7 : decode cX3_reach 7 = .ok (.if_icmp .ge 23, 3) := by decide +kernel
theorem dX3_reach_10 : decode cX3_reach 10 = .ok (.aload_n 0, 1) := by decide +kernel
theorem dX3_reach_11 : decode cX3_reach 11 = .ok (.getfield 55, 3) := by decide +kernel
theorem dX3_reach_14 : decode cX3_reach 14 = .ok (.bipush 16, 2) := by decide +kernel
theorem dX3_reach_16 : decode cX3_reach 16 = .ok (.if_icmp .ge 14, 3) := by decide +kernel
theorem dX3_reach_19 : decode cX3_reach 19 = .ok (.aload_n 0, 1) := by decide +kernel
theorem dX3_reach_20 : decode cX3_reach 20 = .ok (.getfield 58, 3) := by decide +kernel
theorem dX3_reach_23 : decode cX3_reach 23 = .ok (.iload_n 1, 1) := by decide +kernel
theorem dX3_reach_24 : decode cX3_reach 24 = .ok (.ishr, 1) := by decide +kernel
theorem dX3_reach_25 : decode cX3_reach 25 = .ok (.iconst 1, 1) := by decide +kernel
theorem dX3_reach_26 : decode cX3_reach 26 = .ok (.iand, 1) := by decide +kernel
theorem dX3_reach_27 : decode cX3_reach 27 = .ok (.ifCond .eq 5, 3) := by decide +kernel
theorem dX3_reach_30 : decode cX3_reach 30 = .ok (.iconst 0, 1) := by decide +kernel
theorem dX3_reach_31 : decode cX3_reach 31 = .ok (.ireturn, 1) := by decide +kernel
theorem dX3_reach_32 : decode cX3_reach 32 = .ok (.aload_n 0, 1) := by decide +kernel
theorem dX3_reach_33 : decode cX3_reach 33 = .ok (.dup, 1) := by decide +kernel
theorem dX3_reach_34 : decode cX3_reach 34 = .ok (.getfield 58, 3) := by decide +kernel
theorem dX3_reach_37 : decode cX3_reach 37 = .ok (.iconst 1, 1) := by decide +kernel
theorem dX3_reach_38 : decode cX3_reach 38 = .ok (.iload_n 1, 1) := by decide +kernel
theorem dX3_reach_39 : decode cX3_reach 39 = .ok (.ishl, 1) := by decide +kernel
theorem dX3_reach_40 : decode cX3_reach 40 = .ok (.ior, 1) := by decide +kernel
theorem dX3_reach_41 : decode cX3_reach 41 = .ok (.putfield 58, 3) := by decide +kernel
theorem dX3_reach_44 : decode cX3_reach 44 = .ok (.aload_n 0, 1) := by decide +kernel
theorem dX3_reach_45 : decode cX3_reach 45 = .ok (.getfield 9, 3) := by decide +kernel
theorem dX3_reach_48 : decode cX3_reach 48 = .ok (.aload_n 0, 1) := by decide +kernel
theorem dX3_reach_49 : decode cX3_reach 49 = .ok (.getfield 55, 3) := by decide +kernel
theorem dX3_reach_52 : decode cX3_reach 52 = .ok (.iload_n 1, 1) := by decide +kernel
theorem dX3_reach_53 : decode cX3_reach 53 = .ok (.iastore, 1) := by decide +kernel
theorem dX3_reach_54 : decode cX3_reach 54 = .ok (.aload_n 0, 1) := by decide +kernel
theorem dX3_reach_55 : decode cX3_reach 55 = .ok (.dup, 1) := by decide +kernel
theorem dX3_reach_56 : decode cX3_reach 56 = .ok (.getfield 55, 3) := by decide +kernel
theorem dX3_reach_59 : decode cX3_reach 59 = .ok (.iconst 1, 1) := by decide +kernel
theorem dX3_reach_60 : decode cX3_reach 60 = .ok (.iadd, 1) := by decide +kernel
theorem dX3_reach_61 : decode cX3_reach 61 = .ok (.putfield 55, 3) := by decide +kernel
theorem dX3_reach_64 : decode cX3_reach 64 = .ok (.aload_n 0, 1) := by decide +kernel
theorem dX3_reach_65 : decode cX3_reach 65 = .ok (.getfield 15, 3) := by decide +kernel
theorem dX3_reach_68 : decode cX3_reach 68 = .ok (.iload_n 1, 1) := by decide +kernel
theorem dX3_reach_69 : decode cX3_reach 69 = .ok (.iload_n 2, 1) := by decide +kernel
theorem dX3_reach_70 : decode cX3_reach 70 = .ok (.iastore, 1) := by decide +kernel
theorem dX3_reach_71 : decode cX3_reach 71 = .ok (.aload_n 0, 1) := by decide +kernel
theorem dX3_reach_72 : decode cX3_reach 72 = .ok (.getfield 18, 3) := by decide +kernel
theorem dX3_reach_75 : decode cX3_reach 75 = .ok (.iload_n 1, 1) := by decide +kernel
theorem dX3_reach_76 : decode cX3_reach 76 = .ok (.iload_n 3, 1) := by decide +kernel
theorem dX3_reach_77 : decode cX3_reach 77 = .ok (.iastore, 1) := by decide +kernel
theorem dX3_reach_78 : decode cX3_reach 78 = .ok (.iconst 1, 1) := by decide +kernel
theorem dX3_reach_79 : decode cX3_reach 79 = .ok (.ireturn, 1) := by decide +kernel
theorem dX3_otherNest_0 : decode cX3_otherNest 0 = .ok (.aload_n 1, 1) := by decide +kernel
theorem dX3_otherNest_1 : decode cX3_otherNest 1 = .ok (.iconst 0, 1) := by decide +kernel
theorem dX3_otherNest_2 : decode cX3_otherNest 2 = .ok (.iload_n 3, 1) := by decide +kernel
theorem dX3_otherNest_3 : decode cX3_otherNest 3 = .ok (.aload_n 0, 1) := by decide +kernel
theorem dX3_otherNest_4 : decode cX3_otherNest 4 = .ok (.getfield 24, 3) := by decide +kernel
theorem dX3_otherNest_7 : decode cX3_otherNest 7 = .ok (.invokevirtual 30, 3) := by decide +kernel
theorem dX3_otherNest_10 : decode cX3_otherNest 10 = .ok (.istore 4, 2) := by decide +kernel
theorem dX3_otherNest_12 : decode cX3_otherNest 12 = .ok (.aload_n 1, 1) := by decide +kernel
theorem dX3_otherNest_13 : decode cX3_otherNest 13 = .ok (.iconst 1, 1) := by decide +kernel
theorem dX3_otherNest_14 : decode cX3_otherNest 14 = .ok (.iload_n 3, 1) := by decide +kernel
theorem dX3_otherNest_15 : decode cX3_otherNest 15 = .ok (.aload_n 0, 1) := by decide +kernel
theorem dX3_otherNest_16 : decode cX3_otherNest 16 = .ok (.getfield 24, 3) := by decide +kernel
theorem dX3_otherNest_19 : decode cX3_otherNest 19 = .ok (.invokevirtual 30, 3) := by decide +kernel
theorem dX3_otherNest_22 : decode cX3_otherNest 22 = .ok (.istore 5, 2) := by decide +kernel
theorem dX3_otherNest_24 : decode cX3_otherNest 24 = .ok (.iload_n 3, 1) := by decide +kernel
theorem dX3_otherNest_25 : decode cX3_otherNest 25 = .ok (.iconst (-1), 1) := by decide +kernel
theorem dX3_otherNest_26 : decode cX3_otherNest 26 = .ok (.if_icmp .eq 10, 3) := by decide +kernel
theorem dX3_otherNest_29 : decode cX3_otherNest 29 = .ok (.iload 4, 2) := by decide +kernel
theorem dX3_otherNest_31 : decode cX3_otherNest 31 = .ok (.iload 5, 2) := by decide +kernel
theorem dX3_otherNest_33 : decode cX3_otherNest 33 = .ok (.if_icmp .ne 5, 3) := by decide +kernel
theorem dX3_otherNest_36 : decode cX3_otherNest 36 = .ok (.iconst (-1), 1) := by decide +kernel
theorem dX3_otherNest_37 : decode cX3_otherNest 37 = .ok (.ireturn, 1) := by decide +kernel
theorem dX3_otherNest_38 : decode cX3_otherNest 38 = .ok (.iload_n 2, 1) := by decide +kernel
theorem dX3_otherNest_39 : decode cX3_otherNest 39 = .ok (.iload 4, 2) := by decide +kernel
theorem dX3_otherNest_41 : decode cX3_otherNest 41 = .ok (.if_icmp .ne 8, 3) := by decide +kernel
theorem dX3_otherNest_44 : decode cX3_otherNest 44 = .ok (.iload 5, 2) := by decide +kernel
theorem dX3_otherNest_46 : decode cX3_otherNest 46 = .ok (.goto 5, 3) := by decide +kernel
theorem dX3_otherNest_49 : decode cX3_otherNest 49 = .ok (.iload 4, 2) := by decide +kernel
theorem dX3_otherNest_51 : decode cX3_otherNest 51 = .ok (.ireturn, 1) := by decide +kernel
theorem dX3_pushAlong_0 : decode cX3_pushAlong 0 = .ok (.iload_n 2, 1) := by decide +kernel
theorem dX3_pushAlong_1 : decode cX3_pushAlong 1 = .ok (.istore 4, 2) := by decide +kernel
theorem dX3_pushAlong_3 : decode cX3_pushAlong 3 = .ok (.aload_n 1, 1) := by decide +kernel
theorem dX3_pushAlong_4 : decode cX3_pushAlong 4 = .ok (.iload_n 2, 1) := by decide +kernel
theorem dX3_pushAlong_5 : decode cX3_pushAlong 5 = .ok (.invokevirtual 36, 3) := by decide +kernel
theorem dX3_pushAlong_8 : decode cX3_pushAlong 8 = .ok (.istore 5, 2) := by decide +kernel
theorem dX3_pushAlong_10 : decode cX3_pushAlong 10 = .ok (.iconst 0, 1) := by decide +kernel
theorem dX3_pushAlong_11 : decode cX3_pushAlong 11 = .ok (.istore 6, 2) := by decide +kernel
theorem dX3_pushAlong_13 : decode cX3_pushAlong 13 = .ok (.iconst 0, 1) := by decide +kernel
theorem dX3_pushAlong_14 : decode cX3_pushAlong 14 = .ok (.istore 7, 2) := by decide +kernel
theorem dX3_pushAlong_16 : decode cX3_pushAlong 16 = .ok (.iload 7, 2) := by decide +kernel
theorem dX3_pushAlong_18 : decode cX3_pushAlong 18 = .ok (.bipush 16, 2) := by decide +kernel
theorem dX3_pushAlong_20 : decode cX3_pushAlong 20 = .ok (.if_icmp .ge 65, 3) := by decide +kernel
theorem dX3_pushAlong_23 : decode cX3_pushAlong 23 = .ok (.aload_n 0, 1) := by decide +kernel
theorem dX3_pushAlong_24 : decode cX3_pushAlong 24 = .ok (.getfield 15, 3) := by decide +kernel
theorem dX3_pushAlong_27 : decode cX3_pushAlong 27 = .ok (.iload 4, 2) := by decide +kernel
theorem dX3_pushAlong_29 : decode cX3_pushAlong 29 = .ok (.iaload, 1) := by decide +kernel
theorem dX3_pushAlong_30 : decode cX3_pushAlong 30 = .ok (.iconst (-1), 1) := by decide +kernel
theorem dX3_pushAlong_31 : decode cX3_pushAlong 31 = .ok (.if_icmp .eq 54, 3) := by decide +kernel
theorem dX3_pushAlong_34 : decode cX3_pushAlong 34 = .ok (.aload_n 0, 1) := by decide +kernel
theorem dX3_pushAlong_35 : decode cX3_pushAlong 35 = .ok (.getfield 18, 3) := by decide +kernel
theorem dX3_pushAlong_38 : decode cX3_pushAlong 38 = .ok (.iload 4, 2) := by decide +kernel
theorem dX3_pushAlong_40 : decode cX3_pushAlong 40 = .ok (.iaload, 1) := by decide +kernel
theorem dX3_pushAlong_41 : decode cX3_pushAlong 41 = .ok (.istore 8, 2) := by decide +kernel
theorem dX3_pushAlong_43 : decode cX3_pushAlong 43 = .ok (.aload_n 0, 1) := by decide +kernel
theorem dX3_pushAlong_44 : decode cX3_pushAlong 44 = .ok (.getfield 15, 3) := by decide +kernel
theorem dX3_pushAlong_47 : decode cX3_pushAlong 47 = .ok (.iload 4, 2) := by decide +kernel
theorem dX3_pushAlong_49 : decode cX3_pushAlong 49 = .ok (.iaload, 1) := by decide +kernel
theorem dX3_pushAlong_50 : decode cX3_pushAlong 50 = .ok (.istore 9, 2) := by decide +kernel
theorem dX3_pushAlong_52 : decode cX3_pushAlong 52 = .ok (.aload_n 1, 1) := by decide +kernel
theorem dX3_pushAlong_53 : decode cX3_pushAlong 53 = .ok (.iload 4, 2) := by decide +kernel
theorem dX3_pushAlong_55 : decode cX3_pushAlong 55 = .ok (.iload 5, 2) := by decide +kernel
theorem dX3_pushAlong_57 : decode cX3_pushAlong 57 = .ok (.aload_n 1, 1) := by decide +kernel
theorem dX3_pushAlong_58 : decode cX3_pushAlong 58 = .ok (.iload 9, 2) := by decide +kernel
theorem dX3_pushAlong_60 : decode cX3_pushAlong 60 = .ok (.iload 8, 2) := by decide +kernel
theorem dX3_pushAlong_62 : decode cX3_pushAlong 62 = .ok (.invokevirtual 68, 3) := by decide +kernel
theorem dX3_pushAlong_65 : decode cX3_pushAlong 65 = .ok (.invokevirtual 40, 3) := by decide +kernel
theorem dX3_pushAlong_68 : decode cX3_pushAlong 68 = .ok (.iload 9, 2) := by decide +kernel
theorem dX3_pushAlong_70 : decode cX3_pushAlong 70 = .ok (.istore 4, 2) := by decide +kernel
theorem dX3_pushAlong_72 : decode cX3_pushAlong 72 = .ok (.iload 8, 2) := by decide +kernel
theorem dX3_pushAlong_74 : decode cX3_pushAlong 74 = .ok (.istore 5, 2) := by decide +kernel
theorem dX3_pushAlong_76 : decode cX3_pushAlong 76 = .ok (.iinc 6 1, 3) := by decide +kernel
theorem dX3_pushAlong_79 : decode cX3_pushAlong 79 = .ok (.iinc 7 1, 3) := by decide +kernel
theorem dX3_pushAlong_82 : decode cX3_pushAlong 82 = .ok (.goto (-66), 3) := by decide +kernel
theorem dX3_pushAlong_85 : decode cX3_pushAlong 85 = .ok (.aload_n 1, 1) := by decide +kernel
theorem dX3_pushAlong_86 : decode cX3_pushAlong 86 = .ok (.iload 4, 2) := by decide +kernel
theorem dX3_pushAlong_88 : decode cX3_pushAlong 88 = .ok (.iload 5, 2) := by decide +kernel
theorem dX3_pushAlong_90 : decode cX3_pushAlong 90 = .ok (.iload_n 3, 1) := by decide +kernel
theorem dX3_pushAlong_91 : decode cX3_pushAlong 91 = .ok (.invokevirtual 40, 3) := by decide +kernel
theorem dX3_pushAlong_94 : decode cX3_pushAlong 94 = .ok (.iload 6, 2) := by decide +kernel
theorem dX3_pushAlong_96 : decode cX3_pushAlong 96 = .ok (.ireturn, 1) := by decide +kernel
theorem dX3_enlarge_0 : decode cX3_enlarge 0 = .ok (.aload_n 1, 1) := by decide +kernel
theorem dX3_enlarge_1 : decode cX3_enlarge 1 = .ok (.getfield 44, 3) := by decide +kernel
theorem dX3_enlarge_4 : decode cX3_enlarge 4 = .ok (.istore_n 3, 1) := by decide +kernel
theorem dX3_enlarge_5 : decode cX3_enlarge 5 = .ok (.iconst 0, 1) := by decide +kernel
theorem dX3_enlarge_6 : decode cX3_enlarge 6 = .ok (.istore 4, 2) := by decide +kernel
theorem dX3_enlarge_8 : decode cX3_enlarge 8 = .ok (.iload 4, 2) := by decide +kernel
theorem dX3_enlarge_10 : decode cX3_enlarge 10 = .ok (.aload_n 0, 1) := by decide +kernel
theorem dX3_enlarge_11 : decode cX3_enlarge 11 = .ok (.getfield 21, 3) := by decide +kernel
theorem dX3_enlarge_14 : decode cX3_enlarge 14 = .ok (.arraylength, 1) := by decide +kernel
theorem dX3_enlarge_15 : decode cX3_enlarge 15 = .ok (.if_icmp .ge 22, 3) := by decide +kernel
theorem dX3_enlarge_18 : decode cX3_enlarge 18 = .ok (.aload_n 0, 1) := by decide +kernel
theorem dX3_enlarge_19 : decode cX3_enlarge 19 = .ok (.getfield 21, 3) := by decide +kernel
theorem dX3_enlarge_22 : decode cX3_enlarge 22 = .ok (.iload 4, 2) := by decide +kernel
theorem dX3_enlarge_24 : decode cX3_enlarge 24 = .ok (.aload_n 1, 1) := by decide +kernel
theorem dX3_enlarge_25 : decode cX3_enlarge 25 = .ok (.iload 4, 2) := by decide +kernel
theorem dX3_enlarge_27 : decode cX3_enlarge 27 = .ok (.invokevirtual 75, 3) := by decide +kernel
theorem dX3_enlarge_30 : decode cX3_enlarge 30 = .ok (.iastore, 1) := by decide +kernel
theorem dX3_enlarge_31 : decode cX3_enlarge 31 = .ok (.iinc 4 1, 3) := by decide +kernel
theorem dX3_enlarge_34 : decode cX3_enlarge 34 = .ok (.goto (-26), 3) := by decide +kernel
theorem dX3_enlarge_37 : decode cX3_enlarge 37 = .ok (.aload_n 1, 1) := by decide +kernel
theorem dX3_enlarge_38 : decode cX3_enlarge 38 = .ok (.invokevirtual 78, 3) := by decide +kernel
theorem dX3_enlarge_41 : decode cX3_enlarge 41 = .ok (.aload_n 1, 1) := by decide +kernel
theorem dX3_enlarge_42 : decode cX3_enlarge 42 = .ok (.dup, 1) := by decide +kernel
theorem dX3_enlarge_43 : decode cX3_enlarge 43 = .ok (.getfield 24, 3) := by decide +kernel
theorem dX3_enlarge_46 : decode cX3_enlarge 46 = .ok (.iconst 2, 1) := by decide +kernel
theorem dX3_enlarge_47 : decode cX3_enlarge 47 = .ok (.imul, 1) := by decide +kernel
theorem dX3_enlarge_48 : decode cX3_enlarge 48 = .ok (.putfield 24, 3) := by decide +kernel
theorem dX3_enlarge_51 : decode cX3_enlarge 51 = .ok (.iconst 0, 1) := by decide +kernel
theorem dX3_enlarge_52 : decode cX3_enlarge 52 = .ok (.istore 4, 2) := by decide +kernel
theorem dX3_enlarge_54 : decode cX3_enlarge 54 = .ok (.iload 4, 2) := by decide +kernel
theorem dX3_enlarge_56 : decode cX3_enlarge 56 = .ok (.sipush 256, 3) := by decide +kernel
theorem dX3_enlarge_59 : decode cX3_enlarge 59 = .ok (.if_icmp .ge 81, 3) := by decide +kernel
theorem dX3_enlarge_62 : decode cX3_enlarge 62 = .ok (.aload_n 1, 1) := by decide +kernel
theorem dX3_enlarge_63 : decode cX3_enlarge 63 = .ok (.getfield 81, 3) := by decide +kernel
theorem dX3_enlarge_66 : decode cX3_enlarge 66 = .ok (.iload 4, 2) := by decide +kernel
theorem dX3_enlarge_68 : decode cX3_enlarge 68 = .ok (.invokevirtual 85, 3) := by decide +kernel
theorem dX3_enlarge_71 : decode cX3_enlarge 71 = .ok (.ifCond .eq 63, 3) := by decide +kernel
theorem dX3_enlarge_74 : decode cX3_enlarge 74 = .ok (.aload_n 0, 1) := by decide +kernel
theorem dX3_enlarge_75 : decode cX3_enlarge 75 = .ok (.aload_n 1, 1) := by decide +kernel
theorem dX3_enlarge_76 : decode cX3_enlarge 76 = .ok (.aload_n 2, 1) := by decide +kernel
theorem dX3_enlarge_77 : decode cX3_enlarge 77 = .ok (.iload 4, 2) := by decide +kernel
theorem dX3_enlarge_79 : decode cX3_enlarge 79 = .ok (.invokevirtual 91, 3) := by decide +kernel
theorem dX3_enlarge_82 : decode cX3_enlarge 82 = .ok (.ifCond .ne 52, 3) := by decide +kernel
theorem dX3_enlarge_85 : decode cX3_enlarge 85 = .ok (.aload_n 1, 1) := by decide +kernel
theorem dX3_enlarge_86 : decode cX3_enlarge 86 = .ok (.dup, 1) := by decide +kernel
theorem dX3_enlarge_87 : decode cX3_enlarge 87 = .ok (.getfield 24, 3) := by decide +kernel
theorem dX3_enlarge_90 : decode cX3_enlarge 90 = .ok (.iconst 2, 1) := by decide +kernel
theorem dX3_enlarge_91 : decode cX3_enlarge 91 = .ok (.idiv, 1) := by decide +kernel
theorem dX3_enlarge_92 : decode cX3_enlarge 92 = .ok (.putfield 24, 3) := by decide +kernel
theorem dX3_enlarge_95 : decode cX3_enlarge 95 = .ok (.aload_n 1, 1) := by decide +kernel
theorem dX3_enlarge_96 : decode cX3_enlarge 96 = .ok (.iload_n 3, 1) := by decide +kernel
theorem dX3_enlarge_97 : decode cX3_enlarge 97 = .ok (.putfield 44, 3) := by decide +kernel
theorem dX3_enlarge_100 : decode cX3_enlarge 100 = .ok (.iconst 0, 1) := by decide +kernel
theorem dX3_enlarge_101 : decode cX3_enlarge 101 = .ok (.istore 5, 2) := by decide +kernel
theorem dX3_enlarge_103 : decode cX3_enlarge 103 = .ok (.iload 5, 2) := by decide +kernel
theorem dX3_enlarge_105 : decode cX3_enlarge 105 = .ok (.aload_n 0, 1) := by decide +kernel
theorem dX3_enlarge_106 : decode cX3_enlarge 106 = .ok (.getfield 21, 3) := by decide +kernel
theorem dX3_enlarge_109 : decode cX3_enlarge 109 = .ok (.arraylength, 1) := by decide +kernel
theorem dX3_enlarge_110 : decode cX3_enlarge 110 = .ok (.if_icmp .ge 22, 3) := by decide +kernel
theorem dX3_enlarge_113 : decode cX3_enlarge 113 = .ok (.aload_n 1, 1) := by decide +kernel
theorem dX3_enlarge_114 : decode cX3_enlarge 114 = .ok (.iload 5, 2) := by decide +kernel
theorem dX3_enlarge_116 : decode cX3_enlarge 116 = .ok (.aload_n 0, 1) := by decide +kernel
theorem dX3_enlarge_117 : decode cX3_enlarge 117 = .ok (.getfield 21, 3) := by decide +kernel
theorem dX3_enlarge_120 : decode cX3_enlarge 120 = .ok (.iload 5, 2) := by decide +kernel
theorem dX3_enlarge_122 : decode cX3_enlarge 122 = .ok (.iaload, 1) := by decide +kernel
theorem dX3_enlarge_123 : decode cX3_enlarge 123 = .ok (.invokevirtual 95, 3) := by decide +kernel
theorem dX3_enlarge_126 : decode cX3_enlarge 126 = .ok (.iinc 5 1, 3) := by decide +kernel
theorem dX3_enlarge_129 : decode cX3_enlarge 129 = .ok (.goto (-26), 3) := by decide +kernel
theorem dX3_enlarge_132 : decode cX3_enlarge 132 = .ok (.iconst 0, 1) := by decide +kernel
theorem dX3_enlarge_133 : decode cX3_enlarge 133 = .ok (.ireturn, 1) := by decide +kernel
theorem dX3_enlarge_134 : decode cX3_enlarge 134 = .ok (.iinc 4 1, 3) := by decide +kernel
theorem dX3_enlarge_137 : decode cX3_enlarge 137 = .ok (.goto (-83), 3) := by decide +kernel
theorem dX3_enlarge_140 : decode cX3_enlarge 140 = .ok (.iconst 1, 1) := by decide +kernel
theorem dX3_enlarge_141 : decode cX3_enlarge 141 = .ok (.ireturn, 1) := by decide +kernel
theorem dX4_init_0 : decode cX4_init 0 = .ok (.aload_n 0, 1) := by decide +kernel
theorem dX4_init_1 : decode cX4_init 1 = .ok (.invokespecial 5, 3) := by decide +kernel
theorem dX4_init_4 : decode cX4_init 4 = .ok (.aload_n 0, 1) := by decide +kernel
theorem dX4_init_5 : decode cX4_init 5 = .ok (.new 11, 3) := by decide +kernel
theorem dX4_init_8 : decode cX4_init 8 = .ok (.dup, 1) := by decide +kernel
theorem dX4_init_9 : decode cX4_init 9 = .ok (.invokespecial 13, 3) := by decide +kernel
theorem dX4_init_12 : decode cX4_init 12 = .ok (.putfield 14, 3) := by decide +kernel
theorem dX4_init_15 : decode cX4_init 15 = .ok (.aload_n 0, 1) := by decide +kernel
theorem dX4_init_16 : decode cX4_init 16 = .ok (.sipush 600, 3) := by decide +kernel
theorem dX4_init_19 : decode cX4_init 19 = .ok (.newarray .byte, 2) := by decide +kernel
theorem dX4_init_21 : decode cX4_init 21 = .ok (.putfield 18, 3) := by decide +kernel
theorem dX4_init_24 : decode cX4_init 24 = .ok (.aload_n 0, 1) := by decide +kernel
theorem dX4_init_25 : decode cX4_init 25 = .ok (.bipush 20, 2) := by decide +kernel
theorem dX4_init_27 : decode cX4_init 27 = .ok (.newarray .int, 2) := by decide +kernel
theorem dX4_init_29 : decode cX4_init 29 = .ok (.putfield 22, 3) := by decide +kernel
theorem dX4_init_32 : decode cX4_init 32 = .ok (.return_, 1) := by decide +kernel
theorem dX4_append_0 : decode cX4_append 0 = .ok (.bipush 24, 2) := by decide +kernel
theorem dX4_append_2 : decode cX4_append 2 = .ok (.istore_n 2, 1) := by decide +kernel
theorem dX4_append_3 : decode cX4_append 3 = .ok (.iload_n 2, 1) := by decide +kernel
theorem dX4_append_4 : decode cX4_append 4 = .ok (.ifCond .lt 44, 3) := by decide +kernel
theorem dX4_append_7 : decode cX4_append 7 = .ok (.aload_n 0, 1) := by decide +kernel
theorem dX4_append_8 : decode cX4_append 8 = .ok (.getfield 26, 3) := by decide +kernel
theorem dX4_append_11 : decode cX4_append 11 = .ok (.aload_n 0, 1) := by decide +kernel
theorem dX4_append_12 : decode cX4_append 12 = .ok (.getfield 18, 3) := by decide +kernel
theorem dX4_append_15 : decode cX4_append 15 = .ok (.arraylength, 1) := by decide +kernel
theorem dX4_append_16 : decode cX4_append 16 = .ok (.if_icmp .ge 32, 3) := by decide +kernel
theorem dX4_append_19 : decode cX4_append 19 = .ok (.aload_n 0, 1) := by decide +kernel
theorem dX4_append_20 : decode cX4_append 20 = .ok (.getfield 18, 3) := by decide +kernel
theorem dX4_append_23 : decode cX4_append 23 = .ok (.aload_n 0, 1) := by decide +kernel
theorem dX4_append_24 : decode cX4_append 24 = .ok (.getfield 26, 3) := by decide +kernel
theorem dX4_append_27 : decode cX4_append 27 = .ok (.iload_n 1, 1) := by decide +kernel
theorem dX4_append_28 : decode cX4_append 28 = .ok (.iload_n 2, 1) := by decide +kernel
theorem dX4_append_29 : decode cX4_append 29 = .ok (.iushr, 1) := by decide +kernel
theorem dX4_append_30 : decode cX4_append 30 = .ok (.i2b, 1) := by decide +kernel
theorem dX4_append_31 : decode cX4_append 31 = .ok (.bastore, 1) := by decide +kernel
theorem dX4_append_32 : decode cX4_append 32 = .ok (.aload_n 0, 1) := by decide +kernel
theorem dX4_append_33 : decode cX4_append 33 = .ok (.dup, 1) := by decide +kernel
theorem dX4_append_34 : decode cX4_append 34 = .ok (.getfield 26, 3) := by decide +kernel
theorem dX4_append_37 : decode cX4_append 37 = .ok (.iconst 1, 1) := by decide +kernel
theorem dX4_append_38 : decode cX4_append 38 = .ok (.iadd, 1) := by decide +kernel
theorem dX4_append_39 : decode cX4_append 39 = .ok (.putfield 26, 3) := by decide +kernel
theorem dX4_append_42 : decode cX4_append 42 = .ok (.iinc 2 (-8), 3) := by decide +kernel
theorem dX4_append_45 : decode cX4_append 45 = .ok (.goto (-42), 3) := by decide +kernel
theorem dX4_append_48 : decode cX4_append 48 = .ok (.return_, 1) := by decide +kernel
theorem dX4_readAll_0 : decode cX4_readAll 0 = .ok (.aload_n 0, 1) := by decide +kernel
theorem dX4_readAll_1 : decode cX4_readAll 1 = .ok (.iload_n 1, 1) := by decide +kernel
theorem dX4_readAll_2 : decode cX4_readAll 2 = .ok (.putfield 30, 3) := by decide +kernel
theorem dX4_readAll_5 : decode cX4_readAll 5 = .ok (.aload_n 0, 1) := by decide +kernel
theorem dX4_readAll_6 : decode cX4_readAll 6 = .ok (.iconst 0, 1) := by decide +kernel
theorem dX4_readAll_7 : decode cX4_readAll 7 = .ok (.putfield 33, 3) := by decide +kernel
theorem dX4_readAll_10 : decode cX4_readAll 10 = .ok (.aload_n 0, 1) := by decide +kernel
theorem dX4_readAll_11 : decode cX4_readAll 11 = .ok (.iconst 0, 1) := by decide +kernel
theorem dX4_readAll_12 : decode cX4_readAll 12 = .ok (.putfield 36, 3) := by decide +kernel
theorem dX4_readAll_15 : decode cX4_readAll 15 = .ok (.aload_n 0, 1) := by decide +kernel
theorem dX4_readAll_16 : decode cX4_readAll 16 = .ok (.getfield 14, 3) := by decide +kernel
theorem dX4_readAll_19 : decode cX4_readAll 19 = .ok (.invokevirtual 39, 3) := by decide +kernel
theorem dX4_readAll_22 : decode cX4_readAll 22 = .ok (.aload_n 0, 1) := by decide +kernel
theorem dX4_readAll_23 : decode cX4_readAll 23 = .ok (.invokevirtual 42, 3) := by decide +kernel
theorem dX4_readAll_26 : decode cX4_readAll 26 = .ok (.iconst 0, 1) := by decide +kernel
theorem dX4_readAll_27 : decode cX4_readAll 27 = .ok (.istore_n 2, 1) := by decide +kernel
theorem dX4_readAll_28 : decode cX4_readAll 28 = .ok (.iconst 0, 1) := by decide +kernel
theorem dX4_readAll_29 : decode cX4_readAll 29 = .ok (.istore_n 3, 1) := by decide +kernel
theorem dX4_readAll_30 : decode cX4_readAll 30 = .ok (.iload_n 3, 1) := by decide +kernel
theorem dX4_readAll_31 : decode cX4_readAll 31 = .ok (.aload_n 0, 1) := by decide +kernel
theorem dX4_readAll_32 : decode cX4_readAll 32 = .ok (.getfield 30, 3) := by decide +kernel
theorem dX4_readAll_35 : decode cX4_readAll 35 = .ok (.if_icmp .gt 33, 3) := by decide +kernel
theorem dX4_readAll_38 : decode cX4_readAll 38 = .ok (.aload_n 0, 1) := by decide +kernel
theorem dX4_readAll_39 : decode cX4_readAll 39 = .ok (.getfield 45, 3) := by decide +kernel
theorem dX4_readAll_42 : decode cX4_readAll 42 = .ok (.ifCond .eq 26, 3) := by decide +kernel
theorem dX4_readAll_45 : decode cX4_readAll 45 = .ok (.iload_n 2, 1) := by decide +kernel
theorem dX4_readAll_46 : decode cX4_readAll 46 = .ok (.ifCond .ne 22, 3) := by decide +kernel
theorem dX4_readAll_49 : decode cX4_readAll 49 = .ok (.aload_n 0, 1) := by decide +kernel
theorem dX4_readAll_50 : decode cX4_readAll 50 = .ok (.invokevirtual 48, 3) := by decide +kernel
theorem dX4_readAll_53 : decode cX4_readAll 53 = .ok (.istore_n 2, 1) := by decide +kernel
theorem dX4_readAll_54 : decode cX4_readAll 54 = .ok (.iload_n 2, 1) := by decide +kernel
theorem dX4_readAll_55 : decode cX4_readAll 55 = .ok (.ifCond .ne 7, 3) := by decide +kernel
theorem dX4_readAll_58 : decode cX4_readAll 58 = .ok (.aload_n 0, 1) := by decide +kernel
theorem dX4_readAll_59 : decode cX4_readAll 59 = .ok (.invokevirtual 42, 3) := by decide +kernel
theorem dX4_readAll_62 : decode cX4_readAll 62 = .ok (.iinc 3 1, 3) := by decide +kernel
theorem dX4_readAll_65 : decode cX4_readAll 65 = .ok (.goto (-35), 3) := by decide +kernel
theorem dX4_readAll_68 : decode cX4_readAll 68 = .ok (.iload_n 2, 1) := by decide +kernel
theorem dX4_readAll_69 : decode cX4_readAll 69 = .ok (.ifCond .ne 12, 3) := by decide +kernel
theorem dX4_readAll_72 : decode cX4_readAll 72 = .ok (.aload_n 0, 1) := by decide +kernel
theorem dX4_readAll_73 : decode cX4_readAll 73 = .ok (.getfield 36, 3) := by decide +kernel
theorem dX4_readAll_76 : decode cX4_readAll 76 = .ok (.ifCond .eq 5, 3) := by decide +kernel
theorem dX4_readAll_79 : decode cX4_readAll 79 = .ok (.iconst 2, 1) := by decide +kernel
theorem dX4_readAll_80 : decode cX4_readAll 80 = .ok (.istore_n 2, 1) := by decide +kernel
theorem dX4_readAll_81 : decode cX4_readAll 81 = .ok (.aload_n 0, 1) := by decide +kernel
theorem dX4_readAll_82 : decode cX4_readAll 82 = .ok (.iload_n 2, 1) := by decide +kernel
theorem dX4_readAll_83 : decode cX4_readAll 83 = .ok (.putfield 52, 3) := by decide +kernel
theorem dX4_readAll_86 : decode cX4_readAll 86 = .ok (.aload_n 0, 1) := by decide +kernel
theorem dX4_readAll_87 : decode cX4_readAll 87 = .ok (.iload_n 2, 1) := by decide +kernel
theorem dX4_readAll_88 : decode cX4_readAll 88 = .ok (.ifCond .ne 7, 3) := by decide +kernel
theorem dX4_readAll_91 : decode cX4_readAll 91 = .ok (.iconst (-1), 1) := by decide +kernel
theorem dX4_readAll_92 : decode cX4_readAll 92 = .ok (.goto 7, 3) := by decide +kernel
theorem dX4_readAll_95 : decode cX4_readAll 95 = .ok (.aload_n 0, 1) := by decide +kernel
theorem dX4_readAll_96 : decode cX4_readAll 96 = .ok (.getfield 55, 3) := by decide +kernel
theorem dX4_readAll_99 : decode cX4_readAll 99 = .ok (.putfield 58, 3) := by decide +kernel
theorem dX4_readAll_102 : decode cX4_readAll 102 = .ok (.iload_n 2, 1) := by decide +kernel
theorem dX4_readAll_103 : decode cX4_readAll 103 = .ok (.ifCond .ne 10, 3) := by decide +kernel
theorem dX4_readAll_106 : decode cX4_readAll 106 = .ok (.aload_n 0, 1) := by decide +kernel
theorem dX4_readAll_107 : decode cX4_readAll 107 = .ok (.getfield 14, 3) := by decide +kernel
theorem dX4_readAll_110 : decode cX4_readAll 110 = .ok (.invokevirtual 61, 3) := by decide +kernel
theorem dX4_readAll_113 : decode cX4_readAll 113 = .ok (.iload_n 2, 1) := by decide +kernel
theorem dX4_readAll_114 : decode cX4_readAll 114 = .ok (.ifCond .ne 7, 3) := by decide +kernel
theorem dX4_readAll_117 : decode cX4_readAll 117 = .ok (.iconst 1, 1) := by decide +kernel
theorem dX4_readAll_118 : decode cX4_readAll 118 = .ok (.goto 4, 3) := by decide +kernel
theorem dX4_readAll_121 : decode cX4_readAll 121 = .ok (.iconst 0, 1) := by decide +kernel
theorem dX4_readAll_122 : decode cX4_readAll 122 = .ok (.ireturn, 1) := by decide +kernel
theorem dX4_accept_0 : decode cX4_accept 0 = .ok (.aload_n 0, 1) := by decide +kernel
theorem dX4_accept_1 : decode cX4_accept 1 = .ok (.getfield 45, 3) := by decide +kernel
theorem dX4_accept_4 : decode cX4_accept 4 = .ok (.iconst 1, 1) := by decide +kernel
theorem dX4_accept_5 : decode cX4_accept 5 = .ok (.if_icmp .ne 5, 3) := by decide +kernel
theorem dX4_accept_8 : decode cX4_accept 8 = .ok (.iconst 1, 1) := by decide +kernel
theorem dX4_accept_9 : decode cX4_accept 9 = .ok (.ireturn, 1) := by decide +kernel
theorem dX4_accept_10 : decode cX4_accept 10 = .ok (.aload_n 0, 1) := by decide +kernel
theorem dX4_accept_11 : decode cX4_accept 11 = .ok (.getfield 36, 3) := by decide +kernel
theorem dX4_accept_14 : decode cX4_accept 14 = .ok (.tableswitch 54 0 4 #[34, 39, 54, 44, 49], 34) := by decide +kernel
theorem dX4_accept_48 : decode cX4_accept 48 = .ok (.aload_n 0, 1) := by decide +kernel
theorem dX4_accept_49 : decode cX4_accept 49 = .ok (.invokevirtual 64, 3) := by decide +kernel
theorem dX4_accept_52 : decode cX4_accept 52 = .ok (.ireturn, 1) := by decide +kernel
theorem dX4_accept_53 : decode cX4_accept 53 = .ok (.aload_n 0, 1) := by decide +kernel
theorem dX4_accept_54 : decode cX4_accept 54 = .ok (.invokevirtual 67, 3) := by decide +kernel
theorem dX4_accept_57 : decode cX4_accept 57 = .ok (.ireturn, 1) := by decide +kernel
theorem dX4_accept_58 : decode cX4_accept 58 = .ok (.aload_n 0, 1) := by decide +kernel
theorem dX4_accept_59 : decode cX4_accept 59 = .ok (.invokevirtual 70, 3) := by decide +kernel
theorem dX4_accept_62 : decode cX4_accept 62 = .ok (.ireturn, 1) := by decide +kernel
theorem dX4_accept_63 : decode cX4_accept 63 = .ok (.aload_n 0, 1) := by decide +kernel
theorem dX4_accept_64 : decode cX4_accept 64 = .ok (.invokevirtual 73, 3) := by decide +kernel
theorem dX4_accept_67 : decode cX4_accept 67 = .ok (.ireturn, 1) := by decide +kernel
theorem dX4_accept_68 : decode cX4_accept 68 = .ok (.aload_n 0, 1) := by decide +kernel
theorem dX4_accept_69 : decode cX4_accept 69 = .ok (.invokevirtual 76, 3) := by decide +kernel
theorem dX4_accept_72 : decode cX4_accept 72 = .ok (.ireturn, 1) := by decide +kernel
theorem dX4_acceptHead_0 : decode cX4_acceptHead 0 = .ok (.aload_n 0, 1) := by decide +kernel
theorem dX4_acceptHead_1 : decode cX4_acceptHead 1 = .ok (.aload_n 0, 1) := by decide +kernel
theorem dX4_acceptHead_2 : decode cX4_acceptHead 2 = .ok (.getfield 45, 3) := by decide +kernel
theorem dX4_acceptHead_5 : decode cX4_acceptHead 5 = .ok (.putfield 79, 3) := by decide +kernel
theorem dX4_acceptHead_8 : decode cX4_acceptHead 8 = .ok (.aload_n 0, 1) := by decide +kernel
theorem dX4_acceptHead_9 : decode cX4_acceptHead 9 = .ok (.getfield 45, 3) := by decide +kernel
theorem dX4_acceptHead_12 : decode cX4_acceptHead 12 = .ok (.iconst 3, 1) := by decide +kernel
theorem dX4_acceptHead_13 : decode cX4_acceptHead 13 = .ok (.if_icmp .eq 11, 3) := by decide +kernel
theorem dX4_acceptHead_16 : decode cX4_acceptHead 16 = .ok (.aload_n 0, 1) := by decide +kernel
theorem dX4_acceptHead_17 : decode cX4_acceptHead 17 = .ok (.getfield 45, 3) := by decide +kernel
theorem dX4_acceptHead_20 : decode cX4_acceptHead 20 = .ok (.iconst 4, 1) := by decide +kernel
theorem dX4_acceptHead_21 : decode cX4_acceptHead 21 = .ok (.if_icmp .ne 10, 3) := by decide +kernel
theorem dX4_acceptHead_24 : decode cX4_acceptHead 24 = .ok (.aload_n 0, 1) := by decide +kernel
theorem dX4_acceptHead_25 : decode cX4_acceptHead 25 = .ok (.iconst 1, 1) := by decide +kernel
theorem dX4_acceptHead_26 : decode cX4_acceptHead 26 = .ok (.putfield 36, 3) := by decide +kernel
theorem dX4_acceptHead_29 : decode cX4_acceptHead 29 = .ok (.iconst 0, 1) := by decide +kernel
theorem dX4_acceptHead_30 : decode cX4_acceptHead 30 = .ok (.ireturn, 1) := by decide +kernel
theorem dX4_acceptHead_31 : decode cX4_acceptHead 31 = .ok (.aload_n 0, 1) := by decide +kernel
theorem dX4_acceptHead_32 : decode cX4_acceptHead 32 = .ok (.getfield 45, 3) := by decide +kernel
theorem dX4_acceptHead_35 : decode cX4_acceptHead 35 = .ok (.iconst 5, 1) := by decide +kernel
theorem dX4_acceptHead_36 : decode cX4_acceptHead 36 = .ok (.if_icmp .eq 14, 3) := by decide +kernel
theorem dX4_acceptHead_39 : decode cX4_acceptHead 39 = .ok (.aload_n 0, 1) := by decide +kernel
theorem dX4_acceptHead_40 : decode cX4_acceptHead 40 = .ok (.getfield 45, 3) := by decide +kernel
theorem dX4_acceptHead_43 : decode cX4_acceptHead 43 = .ok (.bipush 6, 2) := by decide +kernel
theorem dX4_acceptHead_45 : decode cX4_acceptHead 45 = .ok (.if_icmp .eq 5, 3) := by decide +kernel
theorem dX4_acceptHead_48 : decode cX4_acceptHead 48 = .ok (.iconst 2, 1) := by decide +kernel
theorem dX4_acceptHead_49 : decode cX4_acceptHead 49 = .ok (.ireturn, 1) := by decide +kernel
theorem dX4_acceptHead_50 : decode cX4_acceptHead 50 = .ok (.aload_n 0, 1) := by decide +kernel
theorem dX4_acceptHead_51 : decode cX4_acceptHead 51 = .ok (.getfield 45, 3) := by decide +kernel
theorem dX4_acceptHead_54 : decode cX4_acceptHead 54 = .ok (.iconst 5, 1) := by decide +kernel
theorem dX4_acceptHead_55 : decode cX4_acceptHead 55 = .ok (.if_icmp .ne 17, 3) := by decide +kernel
theorem dX4_acceptHead_58 : decode cX4_acceptHead 58 = .ok (.aload_n 0, 1) := by decide +kernel
theorem dX4_acceptHead_59 : decode cX4_acceptHead 59 = .ok (.getfield 14, 3) := by decide +kernel
theorem dX4_acceptHead_62 : decode cX4_acceptHead 62 = .ok (.getfield 82, 3) := by decide +kernel
theorem dX4_acceptHead_65 : decode cX4_acceptHead 65 = .ok (.bipush 6, 2) := by decide +kernel
theorem dX4_acceptHead_67 : decode cX4_acceptHead 67 = .ok (.if_icmp .lt 5, 3) := by decide +kernel
theorem dX4_acceptHead_70 : decode cX4_acceptHead 70 = .ok (.iconst 4, 1) := by decide +kernel
theorem dX4_acceptHead_71 : decode cX4_acceptHead 71 = .ok (.ireturn, 1) := by decide +kernel
theorem dX4_acceptHead_72 : decode cX4_acceptHead 72 = .ok (.aload_n 0, 1) := by decide +kernel
theorem dX4_acceptHead_73 : decode cX4_acceptHead 73 = .ok (.aload_n 0, 1) := by decide +kernel
theorem dX4_acceptHead_74 : decode cX4_acceptHead 74 = .ok (.getfield 14, 3) := by decide +kernel
theorem dX4_acceptHead_77 : decode cX4_acceptHead 77 = .ok (.invokevirtual 85, 3) := by decide +kernel
theorem dX4_acceptHead_80 : decode cX4_acceptHead 80 = .ok (.putfield 88, 3) := by decide +kernel
theorem dX4_acceptHead_83 : decode cX4_acceptHead 83 = .ok (.aload_n 0, 1) := by decide +kernel
theorem dX4_acceptHead_84 : decode cX4_acceptHead 84 = .ok (.iconst 0, 1) := by decide +kernel
theorem dX4_acceptHead_85 : decode cX4_acceptHead 85 = .ok (.putfield 91, 3) := by decide +kernel
theorem dX4_acceptHead_88 : decode cX4_acceptHead 88 = .ok (.aload_n 0, 1) := by decide +kernel
theorem dX4_acceptHead_89 : decode cX4_acceptHead 89 = .ok (.iconst 0, 1) := by decide +kernel
theorem dX4_acceptHead_90 : decode cX4_acceptHead 90 = .ok (.putfield 94, 3) := by decide +kernel
theorem dX4_acceptHead_93 : decode cX4_acceptHead 93 = .ok (.aload_n 0, 1) := by decide +kernel
theorem dX4_acceptHead_94 : decode cX4_acceptHead 94 = .ok (.iconst 3, 1) := by decide +kernel
theorem dX4_acceptHead_95 : decode cX4_acceptHead 95 = .ok (.putfield 36, 3) := by decide +kernel
theorem dX4_acceptHead_98 : decode cX4_acceptHead 98 = .ok (.iconst 0, 1) := by decide +kernel
theorem dX4_acceptHead_99 : decode cX4_acceptHead 99 = .ok (.ireturn, 1) := by decide +kernel
theorem dX4_acceptBound_0 : decode cX4_acceptBound 0 = .ok (.aload_n 0, 1) := by decide +kernel
theorem dX4_acceptBound_1 : decode cX4_acceptBound 1 = .ok (.getfield 45, 3) := by decide +kernel
theorem dX4_acceptBound_4 : decode cX4_acceptBound 4 = .ok (.iconst 2, 1) := by decide +kernel
theorem dX4_acceptBound_5 : decode cX4_acceptBound 5 = .ok (.if_icmp .eq 5, 3) := by decide +kernel
theorem dX4_acceptBound_8 : decode cX4_acceptBound 8 = .ok (.iconst 2, 1) := by decide +kernel
theorem dX4_acceptBound_9 : decode cX4_acceptBound 9 = .ok (.ireturn, 1) := by decide +kernel
theorem dX4_acceptBound_10 : decode cX4_acceptBound 10 = .ok (.aload_n 0, 1) := by decide +kernel
theorem dX4_acceptBound_11 : decode cX4_acceptBound 11 = .ok (.getfield 97, 3) := by decide +kernel
theorem dX4_acceptBound_14 : decode cX4_acceptBound 14 = .ok (.iconst 2, 1) := by decide +kernel
theorem dX4_acceptBound_15 : decode cX4_acceptBound 15 = .ok (.if_icmp .lt 26, 3) := by decide +kernel
theorem dX4_acceptBound_18 : decode cX4_acceptBound 18 = .ok (.aload_n 0, 1) := by decide +kernel
theorem dX4_acceptBound_19 : decode cX4_acceptBound 19 = .ok (.getfield 97, 3) := by decide +kernel
theorem dX4_acceptBound_22 : decode cX4_acceptBound 22 = .ok (.aload_n 0, 1) := by decide +kernel
theorem dX4_acceptBound_23 : decode cX4_acceptBound 23 = .ok (.getfield 79, 3) := by decide +kernel
theorem dX4_acceptBound_26 : decode cX4_acceptBound 26 = .ok (.iconst 3, 1) := by decide +kernel
theorem dX4_acceptBound_27 : decode cX4_acceptBound 27 = .ok (.if_icmp .ne 9, 3) := by decide +kernel
theorem dX4_acceptBound_30 : decode cX4_acceptBound 30 = .ok (.sipush 256, 3) := by decide +kernel
theorem dX4_acceptBound_33 : decode cX4_acceptBound 33 = .ok (.goto 5, 3) := by decide +kernel
theorem dX4_acceptBound_36 : decode cX4_acceptBound 36 = .ok (.bipush 64, 2) := by decide +kernel
theorem dX4_acceptBound_38 : decode cX4_acceptBound 38 = .ok (.if_icmp .le 5, 3) := by decide +kernel
theorem dX4_acceptBound_41 : decode cX4_acceptBound 41 = .ok (.iconst 3, 1) := by decide +kernel
theorem dX4_acceptBound_42 : decode cX4_acceptBound 42 = .ok (.ireturn, 1) := by decide +kernel
theorem dX4_acceptBound_43 : decode cX4_acceptBound 43 = .ok (.aload_n 0, 1) := by decide +kernel
theorem dX4_acceptBound_44 : decode cX4_acceptBound 44 = .ok (.getfield 79, 3) := by decide +kernel
theorem dX4_acceptBound_47 : decode cX4_acceptBound 47 = .ok (.iconst 3, 1) := by decide +kernel
theorem dX4_acceptBound_48 : decode cX4_acceptBound 48 = .ok (.if_icmp .ne 17, 3) := by decide +kernel
theorem dX4_acceptBound_51 : decode cX4_acceptBound 51 = .ok (.aload_n 0, 1) := by decide +kernel
theorem dX4_acceptBound_52 : decode cX4_acceptBound 52 = .ok (.getfield 14, 3) := by decide +kernel
theorem dX4_acceptBound_55 : decode cX4_acceptBound 55 = .ok (.aload_n 0, 1) := by decide +kernel
theorem dX4_acceptBound_56 : decode cX4_acceptBound 56 = .ok (.getfield 97, 3) := by decide +kernel
theorem dX4_acceptBound_59 : decode cX4_acceptBound 59 = .ok (.putfield 100, 3) := by decide +kernel
theorem dX4_acceptBound_62 : decode cX4_acceptBound 62 = .ok (.goto 14, 3) := by decide +kernel
theorem dX4_acceptBound_65 : decode cX4_acceptBound 65 = .ok (.aload_n 0, 1) := by decide +kernel
theorem dX4_acceptBound_66 : decode cX4_acceptBound 66 = .ok (.getfield 14, 3) := by decide +kernel
theorem dX4_acceptBound_69 : decode cX4_acceptBound 69 = .ok (.aload_n 0, 1) := by decide +kernel
theorem dX4_acceptBound_70 : decode cX4_acceptBound 70 = .ok (.getfield 97, 3) := by decide +kernel
theorem dX4_acceptBound_73 : decode cX4_acceptBound 73 = .ok (.putfield 103, 3) := by decide +kernel
theorem dX4_acceptBound_76 : decode cX4_acceptBound 76 = .ok (.aload_n 0, 1) := by decide +kernel
theorem dX4_acceptBound_77 : decode cX4_acceptBound 77 = .ok (.iconst 2, 1) := by decide +kernel
theorem dX4_acceptBound_78 : decode cX4_acceptBound 78 = .ok (.putfield 36, 3) := by decide +kernel
theorem dX4_acceptBound_81 : decode cX4_acceptBound 81 = .ok (.iconst 0, 1) := by decide +kernel
theorem dX4_acceptBound_82 : decode cX4_acceptBound 82 = .ok (.ireturn, 1) := by decide +kernel
theorem dX4_acceptSemicolon_0 : decode cX4_acceptSemicolon 0 = .ok (.aload_n 0, 1) := by decide +kernel
theorem dX4_acceptSemicolon_1 : decode cX4_acceptSemicolon 1 = .ok (.getfield 45, 3) := by decide +kernel
theorem dX4_acceptSemicolon_4 : decode cX4_acceptSemicolon 4 = .ok (.bipush 59, 2) := by decide +kernel
theorem dX4_acceptSemicolon_6 : decode cX4_acceptSemicolon 6 = .ok (.if_icmp .eq 5, 3) := by decide +kernel
theorem dX4_acceptSemicolon_9 : decode cX4_acceptSemicolon 9 = .ok (.iconst 2, 1) := by decide +kernel
theorem dX4_acceptSemicolon_10 : decode cX4_acceptSemicolon 10 = .ok (.ireturn, 1) := by decide +kernel
theorem dX4_acceptSemicolon_11 : decode cX4_acceptSemicolon 11 = .ok (.aload_n 0, 1) := by decide +kernel
theorem dX4_acceptSemicolon_12 : decode cX4_acceptSemicolon 12 = .ok (.getfield 14, 3) := by decide +kernel
theorem dX4_acceptSemicolon_15 : decode cX4_acceptSemicolon 15 = .ok (.dup, 1) := by decide +kernel
theorem dX4_acceptSemicolon_16 : decode cX4_acceptSemicolon 16 = .ok (.getfield 106, 3) := by decide +kernel
theorem dX4_acceptSemicolon_19 : decode cX4_acceptSemicolon 19 = .ok (.iconst 1, 1) := by decide +kernel
theorem dX4_acceptSemicolon_20 : decode cX4_acceptSemicolon 20 = .ok (.iadd, 1) := by decide +kernel
theorem dX4_acceptSemicolon_21 : decode cX4_acceptSemicolon 21 = .ok (.putfield 106, 3) := by decide +kernel
theorem dX4_acceptSemicolon_24 : decode cX4_acceptSemicolon 24 = .ok (.aload_n 0, 1) := by decide +kernel
theorem dX4_acceptSemicolon_25 : decode cX4_acceptSemicolon 25 = .ok (.iconst 0, 1) := by decide +kernel
theorem dX4_acceptSemicolon_26 : decode cX4_acceptSemicolon 26 = .ok (.putfield 36, 3) := by decide +kernel
theorem dX4_acceptSemicolon_29 : decode cX4_acceptSemicolon 29 = .ok (.iconst 0, 1) := by decide +kernel
theorem dX4_acceptSemicolon_30 : decode cX4_acceptSemicolon 30 = .ok (.ireturn, 1) := by decide +kernel
theorem dX4_acceptOperand_0 : decode cX4_acceptOperand 0 = .ok (.aload_n 0, 1) := by decide +kernel
theorem dX4_acceptOperand_1 : decode cX4_acceptOperand 1 = .ok (.getfield 45, 3) := by decide +kernel
theorem dX4_acceptOperand_4 : decode cX4_acceptOperand 4 = .ok (.lookupswitch 109 #[(2, 72), (7, 86), (8, 97), (40, 44)], 44) := by decide +kernel
theorem dX4_acceptOperand_48 : decode cX4_acceptOperand 48 = .ok (.aload_n 0, 1) := by decide +kernel
theorem dX4_acceptOperand_49 : decode cX4_acceptOperand 49 = .ok (.getfield 91, 3) := by decide +kernel
theorem dX4_acceptOperand_52 : decode cX4_acceptOperand 52 = .ok (.bipush 6, 2) := by decide +kernel
theorem dX4_acceptOperand_54 : decode cX4_acceptOperand 54 = .ok (.if_icmp .lt 5, 3) := by decide +kernel
theorem dX4_acceptOperand_57 : decode cX4_acceptOperand 57 = .ok (.iconst 5, 1) := by decide +kernel
theorem dX4_acceptOperand_58 : decode cX4_acceptOperand 58 = .ok (.ireturn, 1) := by decide +kernel
theorem dX4_acceptOperand_59 : decode cX4_acceptOperand 59 = .ok (.aload_n 0, 1) := by decide +kernel
theorem dX4_acceptOperand_60 : decode cX4_acceptOperand 60 = .ok (.dup, 1) := by decide +kernel
theorem dX4_acceptOperand_61 : decode cX4_acceptOperand 61 = .ok (.getfield 91, 3) := by decide +kernel
theorem dX4_acceptOperand_64 : decode cX4_acceptOperand 64 = .ok (.iconst 1, 1) := by decide +kernel
theorem dX4_acceptOperand_65 : decode cX4_acceptOperand 65 = .ok (.iadd, 1) := by decide +kernel
theorem dX4_acceptOperand_66 : decode cX4_acceptOperand 66 = .ok (.putfield 91, 3) := by decide +kernel
theorem dX4_acceptOperand_69 : decode cX4_acceptOperand 69 = .ok (.aload_n 0, 1) := by decide +kernel
theorem dX4_acceptOperand_70 : decode cX4_acceptOperand 70 = .ok (.iconst 0, 1) := by decide +kernel
theorem dX4_acceptOperand_71 : decode cX4_acceptOperand 71 = .ok (.invokevirtual 109, 3) := by decide +kernel
theorem dX4_acceptOperand_74 : decode cX4_acceptOperand 74 = .ok (.iconst 0, 1) := by decide +kernel
theorem dX4_acceptOperand_75 : decode cX4_acceptOperand 75 = .ok (.ireturn, 1) := by decide +kernel
theorem dX4_acceptOperand_76 : decode cX4_acceptOperand 76 = .ok (.aload_n 0, 1) := by decide +kernel
theorem dX4_acceptOperand_77 : decode cX4_acceptOperand 77 = .ok (.getfield 14, 3) := by decide +kernel
theorem dX4_acceptOperand_80 : decode cX4_acceptOperand 80 = .ok (.aload_n 0, 1) := by decide +kernel
theorem dX4_acceptOperand_81 : decode cX4_acceptOperand 81 = .ok (.getfield 97, 3) := by decide +kernel
theorem dX4_acceptOperand_84 : decode cX4_acceptOperand 84 = .ok (.invokevirtual 113, 3) := by decide +kernel
theorem dX4_acceptOperand_87 : decode cX4_acceptOperand 87 = .ok (.goto 28, 3) := by decide +kernel
theorem dX4_acceptOperand_90 : decode cX4_acceptOperand 90 = .ok (.aload_n 0, 1) := by decide +kernel
theorem dX4_acceptOperand_91 : decode cX4_acceptOperand 91 = .ok (.getfield 14, 3) := by decide +kernel
theorem dX4_acceptOperand_94 : decode cX4_acceptOperand 94 = .ok (.iconst (-1), 1) := by decide +kernel
theorem dX4_acceptOperand_95 : decode cX4_acceptOperand 95 = .ok (.invokevirtual 113, 3) := by decide +kernel
theorem dX4_acceptOperand_98 : decode cX4_acceptOperand 98 = .ok (.goto 17, 3) := by decide +kernel
theorem dX4_acceptOperand_101 : decode cX4_acceptOperand 101 = .ok (.aload_n 0, 1) := by decide +kernel
theorem dX4_acceptOperand_102 : decode cX4_acceptOperand 102 = .ok (.getfield 14, 3) := by decide +kernel
theorem dX4_acceptOperand_105 : decode cX4_acceptOperand 105 = .ok (.bipush (-2), 2) := by decide +kernel
theorem dX4_acceptOperand_107 : decode cX4_acceptOperand 107 = .ok (.invokevirtual 113, 3) := by decide +kernel
theorem dX4_acceptOperand_110 : decode cX4_acceptOperand 110 = .ok (.goto 5, 3) := by decide +kernel
theorem dX4_acceptOperand_113 : decode cX4_acceptOperand 113 = .ok (.iconst 2, 1) := by decide +kernel
theorem dX4_acceptOperand_114 : decode cX4_acceptOperand 114 = .ok (.ireturn, 1) := by decide +kernel
theorem dX4_acceptOperand_115 : decode cX4_acceptOperand 115 = .ok (.aload_n 0, 1) := by decide +kernel
theorem dX4_acceptOperand_116 : decode cX4_acceptOperand 116 = .ok (.iconst 4, 1) := by decide +kernel
theorem dX4_acceptOperand_117 : decode cX4_acceptOperand 117 = .ok (.putfield 36, 3) := by decide +kernel
theorem dX4_acceptOperand_120 : decode cX4_acceptOperand 120 = .ok (.iconst 0, 1) := by decide +kernel
theorem dX4_acceptOperand_121 : decode cX4_acceptOperand 121 = .ok (.ireturn, 1) := by decide +kernel
theorem dX4_acceptOperator_0 : decode cX4_acceptOperator 0 = .ok (.aload_n 0, 1) := by decide +kernel
theorem dX4_acceptOperator_1 : decode cX4_acceptOperator 1 = .ok (.getfield 45, 3) := by decide +kernel
theorem dX4_acceptOperator_4 : decode cX4_acceptOperator 4 = .ok (.invokestatic 116, 3) := by decide +kernel
theorem dX4_acceptOperator_7 : decode cX4_acceptOperator 7 = .ok (.istore_n 1, 1) := by decide +kernel
theorem dX4_acceptOperator_8 : decode cX4_acceptOperator 8 = .ok (.iload_n 1, 1) := by decide +kernel
theorem dX4_acceptOperator_9 : decode cX4_acceptOperator 9 = .ok (.ifCond .eq 23, 3) := by decide +kernel
theorem dX4_acceptOperator_12 : decode cX4_acceptOperator 12 = .ok (.aload_n 0, 1) := by decide +kernel
theorem dX4_acceptOperator_13 : decode cX4_acceptOperator 13 = .ok (.iload_n 1, 1) := by decide +kernel
theorem dX4_acceptOperator_14 : decode cX4_acceptOperator 14 = .ok (.invokestatic 120, 3) := by decide +kernel
theorem dX4_acceptOperator_17 : decode cX4_acceptOperator 17 = .ok (.invokevirtual 123, 3) := by decide +kernel
theorem dX4_acceptOperator_20 : decode cX4_acceptOperator 20 = .ok (.aload_n 0, 1) := by decide +kernel
theorem dX4_acceptOperator_21 : decode cX4_acceptOperator 21 = .ok (.iload_n 1, 1) := by decide +kernel
theorem dX4_acceptOperator_22 : decode cX4_acceptOperator 22 = .ok (.invokevirtual 109, 3) := by decide +kernel
theorem dX4_acceptOperator_25 : decode cX4_acceptOperator 25 = .ok (.aload_n 0, 1) := by decide +kernel
theorem dX4_acceptOperator_26 : decode cX4_acceptOperator 26 = .ok (.iconst 3, 1) := by decide +kernel
theorem dX4_acceptOperator_27 : decode cX4_acceptOperator 27 = .ok (.putfield 36, 3) := by decide +kernel
theorem dX4_acceptOperator_30 : decode cX4_acceptOperator 30 = .ok (.iconst 0, 1) := by decide +kernel
theorem dX4_acceptOperator_31 : decode cX4_acceptOperator 31 = .ok (.ireturn, 1) := by decide +kernel
theorem dX4_acceptOperator_32 : decode cX4_acceptOperator 32 = .ok (.aload_n 0, 1) := by decide +kernel
theorem dX4_acceptOperator_33 : decode cX4_acceptOperator 33 = .ok (.getfield 45, 3) := by decide +kernel
theorem dX4_acceptOperator_36 : decode cX4_acceptOperator 36 = .ok (.bipush 41, 2) := by decide +kernel
theorem dX4_acceptOperator_38 : decode cX4_acceptOperator 38 = .ok (.if_icmp .ne 41, 3) := by decide +kernel
theorem dX4_acceptOperator_41 : decode cX4_acceptOperator 41 = .ok (.aload_n 0, 1) := by decide +kernel
theorem dX4_acceptOperator_42 : decode cX4_acceptOperator 42 = .ok (.getfield 91, 3) := by decide +kernel
theorem dX4_acceptOperator_45 : decode cX4_acceptOperator 45 = .ok (.ifCond .le 34, 3) := by decide +kernel
theorem dX4_acceptOperator_48 : decode cX4_acceptOperator 48 = .ok (.aload_n 0, 1) := by decide +kernel
theorem dX4_acceptOperator_49 : decode cX4_acceptOperator 49 = .ok (.iconst 1, 1) := by decide +kernel
theorem dX4_acceptOperator_50 : decode cX4_acceptOperator 50 = .ok (.invokevirtual 123, 3) := by decide +kernel
theorem dX4_acceptOperator_53 : decode cX4_acceptOperator 53 = .ok (.aload_n 0, 1) := by decide +kernel
theorem dX4_acceptOperator_54 : decode cX4_acceptOperator 54 = .ok (.aload_n 0, 1) := by decide +kernel
theorem dX4_acceptOperator_55 : decode cX4_acceptOperator 55 = .ok (.getfield 94, 3) := by decide +kernel
theorem dX4_acceptOperator_58 : decode cX4_acceptOperator 58 = .ok (.iconst 1, 1) := by decide +kernel
theorem dX4_acceptOperator_59 : decode cX4_acceptOperator 59 = .ok (.isub, 1) := by decide +kernel
theorem dX4_acceptOperator_60 : decode cX4_acceptOperator 60 = .ok (.iconst 0, 1) := by decide +kernel
theorem dX4_acceptOperator_61 : decode cX4_acceptOperator 61 = .ok (.invokestatic 126, 3) := by decide +kernel
theorem dX4_acceptOperator_64 : decode cX4_acceptOperator 64 = .ok (.putfield 94, 3) := by decide +kernel
theorem dX4_acceptOperator_67 : decode cX4_acceptOperator 67 = .ok (.aload_n 0, 1) := by decide +kernel
theorem dX4_acceptOperator_68 : decode cX4_acceptOperator 68 = .ok (.dup, 1) := by decide +kernel
theorem dX4_acceptOperator_69 : decode cX4_acceptOperator 69 = .ok (.getfield 91, 3) := by decide +kernel
theorem dX4_acceptOperator_72 : decode cX4_acceptOperator 72 = .ok (.iconst 1, 1) := by decide +kernel
theorem dX4_acceptOperator_73 : decode cX4_acceptOperator 73 = .ok (.isub, 1) := by decide +kernel
theorem dX4_acceptOperator_74 : decode cX4_acceptOperator 74 = .ok (.putfield 91, 3) := by decide +kernel
theorem dX4_acceptOperator_77 : decode cX4_acceptOperator 77 = .ok (.iconst 0, 1) := by decide +kernel
theorem dX4_acceptOperator_78 : decode cX4_acceptOperator 78 = .ok (.ireturn, 1) := by decide +kernel
theorem dX4_acceptOperator_79 : decode cX4_acceptOperator 79 = .ok (.aload_n 0, 1) := by decide +kernel
theorem dX4_acceptOperator_80 : decode cX4_acceptOperator 80 = .ok (.getfield 45, 3) := by decide +kernel
theorem dX4_acceptOperator_83 : decode cX4_acceptOperator 83 = .ok (.bipush 59, 2) := by decide +kernel
theorem dX4_acceptOperator_85 : decode cX4_acceptOperator 85 = .ok (.if_icmp .ne 24, 3) := by decide +kernel
theorem dX4_acceptOperator_88 : decode cX4_acceptOperator 88 = .ok (.aload_n 0, 1) := by decide +kernel
theorem dX4_acceptOperator_89 : decode cX4_acceptOperator 89 = .ok (.getfield 91, 3) := by decide +kernel
theorem dX4_acceptOperator_92 : decode cX4_acceptOperator 92 = .ok (.ifCond .ne 17, 3) := by decide +kernel
theorem dX4_acceptOperator_95 : decode cX4_acceptOperator 95 = .ok (.aload_n 0, 1) := by decide +kernel
theorem dX4_acceptOperator_96 : decode cX4_acceptOperator 96 = .ok (.iconst 1, 1) := by decide +kernel
theorem dX4_acceptOperator_97 : decode cX4_acceptOperator 97 = .ok (.invokevirtual 123, 3) := by decide +kernel
theorem dX4_acceptOperator_100 : decode cX4_acceptOperator 100 = .ok (.aload_n 0, 1) := by decide +kernel
theorem dX4_acceptOperator_101 : decode cX4_acceptOperator 101 = .ok (.invokevirtual 132, 3) := by decide +kernel
theorem dX4_acceptOperator_104 : decode cX4_acceptOperator 104 = .ok (.aload_n 0, 1) := by decide +kernel
theorem dX4_acceptOperator_105 : decode cX4_acceptOperator 105 = .ok (.invokevirtual 76, 3) := by decide +kernel
theorem dX4_acceptOperator_108 : decode cX4_acceptOperator 108 = .ok (.ireturn, 1) := by decide +kernel
theorem dX4_acceptOperator_109 : decode cX4_acceptOperator 109 = .ok (.iconst 2, 1) := by decide +kernel
theorem dX4_acceptOperator_110 : decode cX4_acceptOperator 110 = .ok (.ireturn, 1) := by decide +kernel
theorem dX4_finishExpression_0 : decode cX4_finishExpression 0 = .ok (.aload_n 0, 1) := by decide +kernel
theorem dX4_finishExpression_1 : decode cX4_finishExpression 1 = .ok (.getfield 79, 3) := by decide +kernel
theorem dX4_finishExpression_4 : decode cX4_finishExpression 4 = .ok (.iconst 5, 1) := by decide +kernel
theorem dX4_finishExpression_5 : decode cX4_finishExpression 5 = .ok (.if_icmp .ne 17, 3) := by decide +kernel
theorem dX4_finishExpression_8 : decode cX4_finishExpression 8 = .ok (.aload_n 0, 1) := by decide +kernel
theorem dX4_finishExpression_9 : decode cX4_finishExpression 9 = .ok (.getfield 14, 3) := by decide +kernel
theorem dX4_finishExpression_12 : decode cX4_finishExpression 12 = .ok (.aload_n 0, 1) := by decide +kernel
theorem dX4_finishExpression_13 : decode cX4_finishExpression 13 = .ok (.getfield 88, 3) := by decide +kernel
theorem dX4_finishExpression_16 : decode cX4_finishExpression 16 = .ok (.invokevirtual 135, 3) := by decide +kernel
theorem dX4_finishExpression_19 : decode cX4_finishExpression 19 = .ok (.goto 14, 3) := by decide +kernel
theorem dX4_finishExpression_22 : decode cX4_finishExpression 22 = .ok (.aload_n 0, 1) := by decide +kernel
theorem dX4_finishExpression_23 : decode cX4_finishExpression 23 = .ok (.getfield 14, 3) := by decide +kernel
theorem dX4_finishExpression_26 : decode cX4_finishExpression 26 = .ok (.aload_n 0, 1) := by decide +kernel
theorem dX4_finishExpression_27 : decode cX4_finishExpression 27 = .ok (.getfield 88, 3) := by decide +kernel
theorem dX4_finishExpression_30 : decode cX4_finishExpression 30 = .ok (.invokevirtual 138, 3) := by decide +kernel
theorem dX4_finishExpression_33 : decode cX4_finishExpression 33 = .ok (.return_, 1) := by decide +kernel
theorem dX4_stepOf_0 : decode cX4_stepOf 0 = .ok (.iload_n 0, 1) := by decide +kernel
theorem dX4_stepOf_1 : decode cX4_stepOf 1 = .ok (.tableswitch 74 37 47 #[71, 74, 74, 74, 74, 65, 59, 74, 62, 74, 68], 59) := by decide +kernel
theorem dX4_stepOf_60 : decode cX4_stepOf 60 = .ok (.bipush (-3), 2) := by decide +kernel
theorem dX4_stepOf_62 : decode cX4_stepOf 62 = .ok (.ireturn, 1) := by decide +kernel
theorem dX4_stepOf_63 : decode cX4_stepOf 63 = .ok (.bipush (-4), 2) := by decide +kernel
theorem dX4_stepOf_65 : decode cX4_stepOf 65 = .ok (.ireturn, 1) := by decide +kernel
theorem dX4_stepOf_66 : decode cX4_stepOf 66 = .ok (.bipush (-5), 2) := by decide +kernel
theorem dX4_stepOf_68 : decode cX4_stepOf 68 = .ok (.ireturn, 1) := by decide +kernel
theorem dX4_stepOf_69 : decode cX4_stepOf 69 = .ok (.bipush (-6), 2) := by decide +kernel
theorem dX4_stepOf_71 : decode cX4_stepOf 71 = .ok (.ireturn, 1) := by decide +kernel
theorem dX4_stepOf_72 : decode cX4_stepOf 72 = .ok (.bipush (-7), 2) := by decide +kernel
theorem dX4_stepOf_74 : decode cX4_stepOf 74 = .ok (.ireturn, 1) := by decide +kernel
theorem dX4_stepOf_75 : decode cX4_stepOf 75 = .ok (.iconst 0, 1) := by decide +kernel
theorem dX4_stepOf_76 : decode cX4_stepOf 76 = .ok (.ireturn, 1) := by decide +kernel
theorem dX4_rankOf_0 : decode cX4_rankOf 0 = .ok (.iload_n 0, 1) := by decide +kernel
theorem dX4_rankOf_1 : decode cX4_rankOf 1 = .ok (.ifCond .ne 5, 3) := by decide +kernel
theorem dX4_rankOf_4 : decode cX4_rankOf 4 = .ok (.iconst 0, 1) := by decide +kernel
theorem dX4_rankOf_5 : decode cX4_rankOf 5 = .ok (.ireturn, 1) := by decide +kernel
theorem dX4_rankOf_6 : decode cX4_rankOf 6 = .ok (.iload_n 0, 1) := by decide +kernel
theorem dX4_rankOf_7 : decode cX4_rankOf 7 = .ok (.bipush (-3), 2) := by decide +kernel
theorem dX4_rankOf_9 : decode cX4_rankOf 9 = .ok (.if_icmp .eq 9, 3) := by decide +kernel
theorem dX4_rankOf_12 : decode cX4_rankOf 12 = .ok (.iload_n 0, 1) := by decide +kernel
theorem dX4_rankOf_13 : decode cX4_rankOf 13 = .ok (.bipush (-4), 2) := by decide +kernel
theorem dX4_rankOf_15 : decode cX4_rankOf 15 = .ok (.if_icmp .ne 7, 3) := by decide +kernel
theorem dX4_rankOf_18 : decode cX4_rankOf 18 = .ok (.iconst 1, 1) := by decide +kernel
theorem dX4_rankOf_19 : decode cX4_rankOf 19 = .ok (.goto 4, 3) := by decide +kernel
theorem dX4_rankOf_22 : decode cX4_rankOf 22 = .ok (.iconst 2, 1) := by decide +kernel
theorem dX4_rankOf_23 : decode cX4_rankOf 23 = .ok (.ireturn, 1) := by decide +kernel
theorem dX4_holdBack_0 : decode cX4_holdBack 0 = .ok (.aload_n 0, 1) := by decide +kernel
theorem dX4_holdBack_1 : decode cX4_holdBack 1 = .ok (.getfield 94, 3) := by decide +kernel
theorem dX4_holdBack_4 : decode cX4_holdBack 4 = .ok (.bipush 20, 2) := by decide +kernel
theorem dX4_holdBack_6 : decode cX4_holdBack 6 = .ok (.if_icmp .ge 23, 3) := by decide +kernel
theorem dX4_holdBack_9 : decode cX4_holdBack 9 = .ok (.aload_n 0, 1) := by decide +kernel
theorem dX4_holdBack_10 : decode cX4_holdBack 10 = .ok (.getfield 22, 3) := by decide +kernel
theorem dX4_holdBack_13 : decode cX4_holdBack 13 = .ok (.aload_n 0, 1) := by decide +kernel
theorem dX4_holdBack_14 : decode cX4_holdBack 14 = .ok (.getfield 94, 3) := by decide +kernel
theorem dX4_holdBack_17 : decode cX4_holdBack 17 = .ok (.iload_n 1, 1) := by decide +kernel
theorem dX4_holdBack_18 : decode cX4_holdBack 18 = .ok (.iastore, 1) := by decide +kernel
theorem dX4_holdBack_19 : decode cX4_holdBack 19 = .ok (.aload_n 0, 1) := by decide +kernel
theorem dX4_holdBack_20 : decode cX4_holdBack 20 = .ok (.dup, 1) := by decide +kernel
theorem dX4_holdBack_21 : decode cX4_holdBack 21 = .ok (.getfield 94, 3) := by decide +kernel
theorem dX4_holdBack_24 : decode cX4_holdBack 24 = .ok (.iconst 1, 1) := by decide +kernel
theorem dX4_holdBack_25 : decode cX4_holdBack 25 = .ok (.iadd, 1) := by decide +kernel
theorem dX4_holdBack_26 : decode cX4_holdBack 26 = .ok (.putfield 94, 3) := by decide +kernel
theorem dX4_holdBack_29 : decode cX4_holdBack 29 = .ok (.return_, 1) := by decide +kernel
theorem dX4_emitWaiting_0 : decode cX4_emitWaiting 0 = .ok (.iconst 0, 1) := by decide +kernel
theorem dX4_emitWaiting_1 : decode cX4_emitWaiting 1 = .ok (.istore_n 2, 1) := by decide +kernel
theorem dX4_emitWaiting_2 : decode cX4_emitWaiting 2 = .ok (.iload_n 2, 1) := by decide +kernel
theorem dX4_emitWaiting_3 : decode cX4_emitWaiting 3 = .ok (.bipush 20, 2) := by decide +kernel
theorem dX4_emitWaiting_5 : decode cX4_emitWaiting 5 = .ok (.if_icmp .ge 55, 3) := by decide +kernel
theorem dX4_emitWaiting_8 : decode cX4_emitWaiting 8 = .ok (.aload_n 0, 1) := by decide +kernel
theorem dX4_emitWaiting_9 : decode cX4_emitWaiting 9 = .ok (.getfield 94, 3) := by decide +kernel
theorem dX4_emitWaiting_12 : decode cX4_emitWaiting 12 = .ok (.ifCond .le 48, 3) := by decide +kernel
theorem dX4_emitWaiting_15 : decode cX4_emitWaiting 15 = .ok (.aload_n 0, 1) := by decide +kernel
theorem dX4_emitWaiting_16 : decode cX4_emitWaiting 16 = .ok (.getfield 22, 3) := by decide +kernel
theorem dX4_emitWaiting_19 : decode cX4_emitWaiting 19 = .ok (.aload_n 0, 1) := by decide +kernel
theorem dX4_emitWaiting_20 : decode cX4_emitWaiting 20 = .ok (.getfield 94, 3) := by decide +kernel
theorem dX4_emitWaiting_23 : decode cX4_emitWaiting 23 = .ok (.iconst 1, 1) := by decide +kernel
theorem dX4_emitWaiting_24 : decode cX4_emitWaiting 24 = .ok (.isub, 1) := by decide +kernel
theorem dX4_emitWaiting_25 : decode cX4_emitWaiting 25 = .ok (.iaload, 1) := by decide +kernel
theorem dX4_emitWaiting_26 : decode cX4_emitWaiting 26 = .ok (.istore_n 3, 1) := by decide +kernel
theorem dX4_emitWaiting_27 : decode cX4_emitWaiting 27 = .ok (.iload_n 3, 1) := by decide +kernel
theorem dX4_emitWaiting_28 : decode cX4_emitWaiting 28 = .ok (.invokestatic 120, 3) := by decide +kernel
theorem dX4_emitWaiting_31 : decode cX4_emitWaiting 31 = .ok (.iload_n 1, 1) := by decide +kernel
theorem dX4_emitWaiting_32 : decode cX4_emitWaiting 32 = .ok (.if_icmp .ge 4, 3) := by decide +kernel
theorem dX4_emitWaiting_35 : decode cX4_emitWaiting 35 = .ok (.return_, 1) := by decide +kernel
theorem dX4_emitWaiting_36 : decode cX4_emitWaiting 36 = .ok (.aload_n 0, 1) := by decide +kernel
theorem dX4_emitWaiting_37 : decode cX4_emitWaiting 37 = .ok (.getfield 14, 3) := by decide +kernel
theorem dX4_emitWaiting_40 : decode cX4_emitWaiting 40 = .ok (.iload_n 3, 1) := by decide +kernel
theorem dX4_emitWaiting_41 : decode cX4_emitWaiting 41 = .ok (.invokevirtual 113, 3) := by decide +kernel
theorem dX4_emitWaiting_44 : decode cX4_emitWaiting 44 = .ok (.aload_n 0, 1) := by decide +kernel
theorem dX4_emitWaiting_45 : decode cX4_emitWaiting 45 = .ok (.dup, 1) := by decide +kernel
theorem dX4_emitWaiting_46 : decode cX4_emitWaiting 46 = .ok (.getfield 94, 3) := by decide +kernel
theorem dX4_emitWaiting_49 : decode cX4_emitWaiting 49 = .ok (.iconst 1, 1) := by decide +kernel
theorem dX4_emitWaiting_50 : decode cX4_emitWaiting 50 = .ok (.isub, 1) := by decide +kernel
theorem dX4_emitWaiting_51 : decode cX4_emitWaiting 51 = .ok (.putfield 94, 3) := by decide +kernel
theorem dX4_emitWaiting_54 : decode cX4_emitWaiting 54 = .ok (.iinc 2 1, 3) := by decide +kernel
theorem dX4_emitWaiting_57 : decode cX4_emitWaiting 57 = .ok (.goto (-55), 3) := by decide +kernel
theorem dX4_emitWaiting_60 : decode cX4_emitWaiting 60 = .ok (.return_, 1) := by decide +kernel
theorem dX4_byteAt_0 : decode cX4_byteAt 0 = .ok (.iload_n 1, 1) := by decide +kernel
theorem dX4_byteAt_1 : decode cX4_byteAt 1 = .ok (.ifCond .lt 33, 3) := by decide +kernel
theorem dX4_byteAt_4 : decode cX4_byteAt 4 = .ok (.iload_n 1, 1) := by decide +kernel
theorem dX4_byteAt_5 : decode cX4_byteAt 5 = .ok (.aload_n 0, 1) := by decide +kernel
theorem dX4_byteAt_6 : decode cX4_byteAt 6 = .ok (.getfield 30, 3) := by decide +kernel
theorem dX4_byteAt_9 : decode cX4_byteAt 9 = .ok (.if_icmp .ge 25, 3) := by decide +kernel
theorem dX4_byteAt_12 : decode cX4_byteAt 12 = .ok (.iload_n 1, 1) := by decide +kernel
theorem dX4_byteAt_13 : decode cX4_byteAt 13 = .ok (.aload_n 0, 1) := by decide +kernel
theorem dX4_byteAt_14 : decode cX4_byteAt 14 = .ok (.getfield 18, 3) := by decide +kernel
theorem dX4_byteAt_17 : decode cX4_byteAt 17 = .ok (.arraylength, 1) := by decide +kernel
theorem dX4_byteAt_18 : decode cX4_byteAt 18 = .ok (.if_icmp .ge 16, 3) := by decide +kernel
theorem dX4_byteAt_21 : decode cX4_byteAt 21 = .ok (.aload_n 0, 1) := by decide +kernel
theorem dX4_byteAt_22 : decode cX4_byteAt 22 = .ok (.getfield 18, 3) := by decide +kernel
theorem dX4_byteAt_25 : decode cX4_byteAt 25 = .ok (.iload_n 1, 1) := by decide +kernel
theorem dX4_byteAt_26 : decode cX4_byteAt 26 = .ok (.baload, 1) := by decide +kernel
theorem dX4_byteAt_27 : decode cX4_byteAt 27 = .ok (.sipush 255, 3) := by decide +kernel
theorem dX4_byteAt_30 : decode cX4_byteAt 30 = .ok (.iand, 1) := by decide +kernel
theorem dX4_byteAt_31 : decode cX4_byteAt 31 = .ok (.goto 4, 3) := by decide +kernel
theorem dX4_byteAt_34 : decode cX4_byteAt 34 = .ok (.iconst (-1), 1) := by decide +kernel
theorem dX4_byteAt_35 : decode cX4_byteAt 35 = .ok (.ireturn, 1) := by decide +kernel
theorem dX4_advance_0 : decode cX4_advance 0 = .ok (.aload_n 0, 1) := by decide +kernel
theorem dX4_advance_1 : decode cX4_advance 1 = .ok (.aload_n 0, 1) := by decide +kernel
theorem dX4_advance_2 : decode cX4_advance 2 = .ok (.getfield 33, 3) := by decide +kernel
theorem dX4_advance_5 : decode cX4_advance 5 = .ok (.putfield 55, 3) := by decide +kernel
theorem dX4_advance_8 : decode cX4_advance 8 = .ok (.iconst 0, 1) := by decide +kernel
theorem dX4_advance_9 : decode cX4_advance 9 = .ok (.istore_n 1, 1) := by decide +kernel
theorem dX4_advance_10 : decode cX4_advance 10 = .ok (.iload_n 1, 1) := by decide +kernel
theorem dX4_advance_11 : decode cX4_advance 11 = .ok (.aload_n 0, 1) := by decide +kernel
theorem dX4_advance_12 : decode cX4_advance 12 = .ok (.getfield 30, 3) := by decide +kernel
theorem dX4_advance_15 : decode cX4_advance 15 = .ok (.if_icmp .gt 33, 3) := by decide +kernel
theorem dX4_advance_18 : decode cX4_advance 18 = .ok (.aload_n 0, 1) := by decide +kernel
theorem dX4_advance_19 : decode cX4_advance 19 = .ok (.aload_n 0, 1) := by decide +kernel
theorem dX4_advance_20 : decode cX4_advance 20 = .ok (.getfield 55, 3) := by decide +kernel
theorem dX4_advance_23 : decode cX4_advance 23 = .ok (.invokevirtual 141, 3) := by decide +kernel
theorem dX4_advance_26 : decode cX4_advance 26 = .ok (.invokestatic 144, 3) := by decide +kernel
theorem dX4_advance_29 : decode cX4_advance 29 = .ok (.ifCond .eq 19, 3) := by decide +kernel
theorem dX4_advance_32 : decode cX4_advance 32 = .ok (.aload_n 0, 1) := by decide +kernel
theorem dX4_advance_33 : decode cX4_advance 33 = .ok (.dup, 1) := by decide +kernel
theorem dX4_advance_34 : decode cX4_advance 34 = .ok (.getfield 55, 3) := by decide +kernel
theorem dX4_advance_37 : decode cX4_advance 37 = .ok (.iconst 1, 1) := by decide +kernel
theorem dX4_advance_38 : decode cX4_advance 38 = .ok (.iadd, 1) := by decide +kernel
theorem dX4_advance_39 : decode cX4_advance 39 = .ok (.putfield 55, 3) := by decide +kernel
theorem dX4_advance_42 : decode cX4_advance 42 = .ok (.iinc 1 1, 3) := by decide +kernel
theorem dX4_advance_45 : decode cX4_advance 45 = .ok (.goto (-35), 3) := by decide +kernel
theorem dX4_advance_48 : decode cX4_advance 48 = .ok (.aload_n 0, 1) := by decide +kernel
theorem dX4_advance_49 : decode cX4_advance 49 = .ok (.aload_n 0, 1) := by decide +kernel
theorem dX4_advance_50 : decode cX4_advance 50 = .ok (.getfield 55, 3) := by decide +kernel
theorem dX4_advance_53 : decode cX4_advance 53 = .ok (.putfield 33, 3) := by decide +kernel
theorem dX4_advance_56 : decode cX4_advance 56 = .ok (.aload_n 0, 1) := by decide +kernel
theorem dX4_advance_57 : decode cX4_advance 57 = .ok (.aload_n 0, 1) := by decide +kernel
theorem dX4_advance_58 : decode cX4_advance 58 = .ok (.getfield 55, 3) := by decide +kernel
theorem dX4_advance_61 : decode cX4_advance 61 = .ok (.invokevirtual 141, 3) := by decide +kernel
theorem dX4_advance_64 : decode cX4_advance 64 = .ok (.istore_n 1, 1) := by decide +kernel
theorem dX4_advance_65 : decode cX4_advance 65 = .ok (.iload_n 1, 1) := by decide +kernel
theorem dX4_advance_66 : decode cX4_advance 66 = .ok (.iconst (-1), 1) := by decide +kernel
theorem dX4_advance_67 : decode cX4_advance 67 = .ok (.if_icmp .ne 11, 3) := by decide +kernel
theorem dX4_advance_70 : decode cX4_advance 70 = .ok (.aload_n 0, 1) := by decide +kernel
theorem dX4_advance_71 : decode cX4_advance 71 = .ok (.iconst 0, 1) := by decide +kernel
theorem dX4_advance_72 : decode cX4_advance 72 = .ok (.putfield 45, 3) := by decide +kernel
theorem dX4_advance_75 : decode cX4_advance 75 = .ok (.goto 68, 3) := by decide +kernel
theorem dX4_advance_78 : decode cX4_advance 78 = .ok (.iload_n 1, 1) := by decide +kernel
theorem dX4_advance_79 : decode cX4_advance 79 = .ok (.invokestatic 148, 3) := by decide +kernel
theorem dX4_advance_82 : decode cX4_advance 82 = .ok (.ifCond .eq 14, 3) := by decide +kernel
theorem dX4_advance_85 : decode cX4_advance 85 = .ok (.aload_n 0, 1) := by decide +kernel
theorem dX4_advance_86 : decode cX4_advance 86 = .ok (.aload_n 0, 1) := by decide +kernel
theorem dX4_advance_87 : decode cX4_advance 87 = .ok (.invokevirtual 151, 3) := by decide +kernel
theorem dX4_advance_90 : decode cX4_advance 90 = .ok (.putfield 45, 3) := by decide +kernel
theorem dX4_advance_93 : decode cX4_advance 93 = .ok (.goto 50, 3) := by decide +kernel
theorem dX4_advance_96 : decode cX4_advance 96 = .ok (.iload_n 1, 1) := by decide +kernel
theorem dX4_advance_97 : decode cX4_advance 97 = .ok (.invokestatic 154, 3) := by decide +kernel
theorem dX4_advance_100 : decode cX4_advance 100 = .ok (.ifCond .eq 14, 3) := by decide +kernel
theorem dX4_advance_103 : decode cX4_advance 103 = .ok (.aload_n 0, 1) := by decide +kernel
theorem dX4_advance_104 : decode cX4_advance 104 = .ok (.aload_n 0, 1) := by decide +kernel
theorem dX4_advance_105 : decode cX4_advance 105 = .ok (.invokevirtual 157, 3) := by decide +kernel
theorem dX4_advance_108 : decode cX4_advance 108 = .ok (.putfield 45, 3) := by decide +kernel
theorem dX4_advance_111 : decode cX4_advance 111 = .ok (.goto 32, 3) := by decide +kernel
theorem dX4_advance_114 : decode cX4_advance 114 = .ok (.aload_n 0, 1) := by decide +kernel
theorem dX4_advance_115 : decode cX4_advance 115 = .ok (.dup, 1) := by decide +kernel
theorem dX4_advance_116 : decode cX4_advance 116 = .ok (.getfield 33, 3) := by decide +kernel
theorem dX4_advance_119 : decode cX4_advance 119 = .ok (.iconst 1, 1) := by decide +kernel
theorem dX4_advance_120 : decode cX4_advance 120 = .ok (.iadd, 1) := by decide +kernel
theorem dX4_advance_121 : decode cX4_advance 121 = .ok (.putfield 33, 3) := by decide +kernel
theorem dX4_advance_124 : decode cX4_advance 124 = .ok (.aload_n 0, 1) := by decide +kernel
theorem dX4_advance_125 : decode cX4_advance 125 = .ok (.ldc 160, 2) := by decide +kernel
theorem dX4_advance_127 : decode cX4_advance 127 = .ok (.iload_n 1, 1) := by decide +kernel
theorem dX4_advance_128 : decode cX4_advance 128 = .ok (.i2c, 1) := by decide +kernel
theorem dX4_advance_129 : decode cX4_advance 129 = .ok (.invokevirtual 162, 3) := by decide +kernel
theorem dX4_advance_132 : decode cX4_advance 132 = .ok (.ifCond .lt 7, 3) := by decide +kernel
theorem dX4_advance_135 : decode cX4_advance 135 = .ok (.iload_n 1, 1) := by decide +kernel
theorem dX4_advance_136 : decode cX4_advance 136 = .ok (.goto 4, 3) := by decide +kernel
theorem dX4_advance_139 : decode cX4_advance 139 = .ok (.iconst 1, 1) := by decide +kernel
theorem dX4_advance_140 : decode cX4_advance 140 = .ok (.putfield 45, 3) := by decide +kernel
theorem dX4_advance_143 : decode cX4_advance 143 = .ok (.return_, 1) := by decide +kernel
theorem dX4_isBlank_0 : decode cX4_isBlank 0 = .ok (.iload_n 0, 1) := by decide +kernel
theorem dX4_isBlank_1 : decode cX4_isBlank 1 = .ok (.bipush 10, 2) := by decide +kernel
theorem dX4_isBlank_3 : decode cX4_isBlank 3 = .ok (.if_icmp .eq 9, 3) := by decide +kernel
theorem dX4_isBlank_6 : decode cX4_isBlank 6 = .ok (.iload_n 0, 1) := by decide +kernel
theorem dX4_isBlank_7 : decode cX4_isBlank 7 = .ok (.bipush 32, 2) := by decide +kernel
theorem dX4_isBlank_9 : decode cX4_isBlank 9 = .ok (.if_icmp .ne 7, 3) := by decide +kernel
theorem dX4_isBlank_12 : decode cX4_isBlank 12 = .ok (.iconst 1, 1) := by decide +kernel
theorem dX4_isBlank_13 : decode cX4_isBlank 13 = .ok (.goto 4, 3) := by decide +kernel
theorem dX4_isBlank_16 : decode cX4_isBlank 16 = .ok (.iconst 0, 1) := by decide +kernel
theorem dX4_isBlank_17 : decode cX4_isBlank 17 = .ok (.ireturn, 1) := by decide +kernel
theorem dX4_isLetter_0 : decode cX4_isLetter 0 = .ok (.iload_n 0, 1) := by decide +kernel
theorem dX4_isLetter_1 : decode cX4_isLetter 1 = .ok (.bipush 97, 2) := by decide +kernel
theorem dX4_isLetter_3 : decode cX4_isLetter 3 = .ok (.if_icmp .lt 13, 3) := by decide +kernel
theorem dX4_isLetter_6 : decode cX4_isLetter 6 = .ok (.iload_n 0, 1) := by decide +kernel
theorem dX4_isLetter_7 : decode cX4_isLetter 7 = .ok (.bipush 122, 2) := by decide +kernel
theorem dX4_isLetter_9 : decode cX4_isLetter 9 = .ok (.if_icmp .gt 7, 3) := by decide +kernel
theorem dX4_isLetter_12 : decode cX4_isLetter 12 = .ok (.iconst 1, 1) := by decide +kernel
theorem dX4_isLetter_13 : decode cX4_isLetter 13 = .ok (.goto 4, 3) := by decide +kernel
theorem dX4_isLetter_16 : decode cX4_isLetter 16 = .ok (.iconst 0, 1) := by decide +kernel
theorem dX4_isLetter_17 : decode cX4_isLetter 17 = .ok (.ireturn, 1) := by decide +kernel
theorem dX4_isDigit_0 : decode cX4_isDigit 0 = .ok (.iload_n 0, 1) := by decide +kernel
theorem dX4_isDigit_1 : decode cX4_isDigit 1 = .ok (.bipush 48, 2) := by decide +kernel
theorem dX4_isDigit_3 : decode cX4_isDigit 3 = .ok (.if_icmp .lt 13, 3) := by decide +kernel
theorem dX4_isDigit_6 : decode cX4_isDigit 6 = .ok (.iload_n 0, 1) := by decide +kernel
theorem dX4_isDigit_7 : decode cX4_isDigit 7 = .ok (.bipush 57, 2) := by decide +kernel
theorem dX4_isDigit_9 : decode cX4_isDigit 9 = .ok (.if_icmp .gt 7, 3) := by decide +kernel
theorem dX4_isDigit_12 : decode cX4_isDigit 12 = .ok (.iconst 1, 1) := by decide +kernel
theorem dX4_isDigit_13 : decode cX4_isDigit 13 = .ok (.goto 4, 3) := by decide +kernel
theorem dX4_isDigit_16 : decode cX4_isDigit 16 = .ok (.iconst 0, 1) := by decide +kernel
theorem dX4_isDigit_17 : decode cX4_isDigit 17 = .ok (.ireturn, 1) := by decide +kernel
theorem dX4_scanWord_0 : decode cX4_scanWord 0 = .ok (.iconst 0, 1) := by decide +kernel
theorem dX4_scanWord_1 : decode cX4_scanWord 1 = .ok (.istore_n 1, 1) := by decide +kernel
theorem dX4_scanWord_2 : decode cX4_scanWord 2 = .ok (.iload_n 1, 1) := by decide +kernel
theorem dX4_scanWord_3 : decode cX4_scanWord 3 = .ok (.aload_n 0, 1) := by decide +kernel
theorem dX4_scanWord_4 : decode cX4_scanWord 4 = .ok (.getfield 30, 3) := by decide +kernel
theorem dX4_scanWord_7 : decode cX4_scanWord 7 = .ok (.if_icmp .gt 33, 3) := by decide +kernel
theorem dX4_scanWord_10 : decode cX4_scanWord 10 = .ok (.aload_n 0, 1) := by decide +kernel
theorem dX4_scanWord_11 : decode cX4_scanWord 11 = .ok (.aload_n 0, 1) := by decide +kernel
theorem dX4_scanWord_12 : decode cX4_scanWord 12 = .ok (.getfield 33, 3) := by decide +kernel
theorem dX4_scanWord_15 : decode cX4_scanWord 15 = .ok (.invokevirtual 141, 3) := by decide +kernel
theorem dX4_scanWord_18 : decode cX4_scanWord 18 = .ok (.invokestatic 148, 3) := by decide +kernel
theorem dX4_scanWord_21 : decode cX4_scanWord 21 = .ok (.ifCond .eq 19, 3) := by decide +kernel
theorem dX4_scanWord_24 : decode cX4_scanWord 24 = .ok (.aload_n 0, 1) := by decide +kernel
theorem dX4_scanWord_25 : decode cX4_scanWord 25 = .ok (.dup, 1) := by decide +kernel
theorem dX4_scanWord_26 : decode cX4_scanWord 26 = .ok (.getfield 33, 3) := by decide +kernel
theorem dX4_scanWord_29 : decode cX4_scanWord 29 = .ok (.iconst 1, 1) := by decide +kernel
theorem dX4_scanWord_30 : decode cX4_scanWord 30 = .ok (.iadd, 1) := by decide +kernel
theorem dX4_scanWord_31 : decode cX4_scanWord 31 = .ok (.putfield 33, 3) := by decide +kernel
theorem dX4_scanWord_34 : decode cX4_scanWord 34 = .ok (.iinc 1 1, 3) := by decide +kernel
theorem dX4_scanWord_37 : decode cX4_scanWord 37 = .ok (.goto (-35), 3) := by decide +kernel
theorem dX4_scanWord_40 : decode cX4_scanWord 40 = .ok (.aload_n 0, 1) := by decide +kernel
theorem dX4_scanWord_41 : decode cX4_scanWord 41 = .ok (.ldc 167, 2) := by decide +kernel
theorem dX4_scanWord_43 : decode cX4_scanWord 43 = .ok (.invokevirtual 168, 3) := by decide +kernel
theorem dX4_scanWord_46 : decode cX4_scanWord 46 = .ok (.ifCond .eq 5, 3) := by decide +kernel
theorem dX4_scanWord_49 : decode cX4_scanWord 49 = .ok (.iconst 3, 1) := by decide +kernel
theorem dX4_scanWord_50 : decode cX4_scanWord 50 = .ok (.ireturn, 1) := by decide +kernel
theorem dX4_scanWord_51 : decode cX4_scanWord 51 = .ok (.aload_n 0, 1) := by decide +kernel
theorem dX4_scanWord_52 : decode cX4_scanWord 52 = .ok (.ldc 172, 2) := by decide +kernel
theorem dX4_scanWord_54 : decode cX4_scanWord 54 = .ok (.invokevirtual 168, 3) := by decide +kernel
theorem dX4_scanWord_57 : decode cX4_scanWord 57 = .ok (.ifCond .eq 5, 3) := by decide +kernel
theorem dX4_scanWord_60 : decode cX4_scanWord 60 = .ok (.iconst 4, 1) := by decide +kernel
theorem dX4_scanWord_61 : decode cX4_scanWord 61 = .ok (.ireturn, 1) := by decide +kernel
theorem dX4_scanWord_62 : decode cX4_scanWord 62 = .ok (.aload_n 0, 1) := by decide +kernel
theorem dX4_scanWord_63 : decode cX4_scanWord 63 = .ok (.ldc 173, 2) := by decide +kernel
theorem dX4_scanWord_65 : decode cX4_scanWord 65 = .ok (.invokevirtual 168, 3) := by decide +kernel
theorem dX4_scanWord_68 : decode cX4_scanWord 68 = .ok (.ifCond .eq 5, 3) := by decide +kernel
theorem dX4_scanWord_71 : decode cX4_scanWord 71 = .ok (.iconst 5, 1) := by decide +kernel
theorem dX4_scanWord_72 : decode cX4_scanWord 72 = .ok (.ireturn, 1) := by decide +kernel
theorem dX4_scanWord_73 : decode cX4_scanWord 73 = .ok (.aload_n 0, 1) := by decide +kernel
theorem dX4_scanWord_74 : decode cX4_scanWord 74 = .ok (.ldc 175, 2) := by decide +kernel
theorem dX4_scanWord_76 : decode cX4_scanWord 76 = .ok (.invokevirtual 168, 3) := by decide +kernel
theorem dX4_scanWord_79 : decode cX4_scanWord 79 = .ok (.ifCond .eq 6, 3) := by decide +kernel
theorem dX4_scanWord_82 : decode cX4_scanWord 82 = .ok (.bipush 6, 2) := by decide +kernel
theorem dX4_scanWord_84 : decode cX4_scanWord 84 = .ok (.ireturn, 1) := by decide +kernel
theorem dX4_scanWord_85 : decode cX4_scanWord 85 = .ok (.aload_n 0, 1) := by decide +kernel
theorem dX4_scanWord_86 : decode cX4_scanWord 86 = .ok (.ldc 177, 2) := by decide +kernel
theorem dX4_scanWord_88 : decode cX4_scanWord 88 = .ok (.invokevirtual 168, 3) := by decide +kernel
theorem dX4_scanWord_91 : decode cX4_scanWord 91 = .ok (.ifCond .eq 6, 3) := by decide +kernel
theorem dX4_scanWord_94 : decode cX4_scanWord 94 = .ok (.bipush 7, 2) := by decide +kernel
theorem dX4_scanWord_96 : decode cX4_scanWord 96 = .ok (.ireturn, 1) := by decide +kernel
theorem dX4_scanWord_97 : decode cX4_scanWord 97 = .ok (.aload_n 0, 1) := by decide +kernel
theorem dX4_scanWord_98 : decode cX4_scanWord 98 = .ok (.ldc 179, 2) := by decide +kernel
theorem dX4_scanWord_100 : decode cX4_scanWord 100 = .ok (.invokevirtual 168, 3) := by decide +kernel
theorem dX4_scanWord_103 : decode cX4_scanWord 103 = .ok (.ifCond .eq 8, 3) := by decide +kernel
theorem dX4_scanWord_106 : decode cX4_scanWord 106 = .ok (.bipush 8, 2) := by decide +kernel
theorem dX4_scanWord_108 : decode cX4_scanWord 108 = .ok (.goto 5, 3) := by decide +kernel
theorem dX4_scanWord_111 : decode cX4_scanWord 111 = .ok (.bipush 9, 2) := by decide +kernel
theorem dX4_scanWord_113 : decode cX4_scanWord 113 = .ok (.ireturn, 1) := by decide +kernel
theorem dX4_spells_0 : decode cX4_spells 0 = .ok (.aload_n 0, 1) := by decide +kernel
theorem dX4_spells_1 : decode cX4_spells 1 = .ok (.getfield 33, 3) := by decide +kernel
theorem dX4_spells_4 : decode cX4_spells 4 = .ok (.aload_n 0, 1) := by decide +kernel
theorem dX4_spells_5 : decode cX4_spells 5 = .ok (.getfield 55, 3) := by decide +kernel
theorem dX4_spells_8 : decode cX4_spells 8 = .ok (.isub, 1) := by decide +kernel
theorem dX4_spells_9 : decode cX4_spells 9 = .ok (.aload_n 1, 1) := by decide +kernel
theorem dX4_spells_10 : decode cX4_spells 10 = .ok (.invokevirtual 181, 3) := by decide +kernel
theorem dX4_spells_13 : decode cX4_spells 13 = .ok (.if_icmp .eq 5, 3) := by decide +kernel
theorem dX4_spells_16 : decode cX4_spells 16 = .ok (.iconst 0, 1) := by decide +kernel
theorem dX4_spells_17 : decode cX4_spells 17 = .ok (.ireturn, 1) := by decide +kernel
theorem dX4_spells_18 : decode cX4_spells 18 = .ok (.iconst 0, 1) := by decide +kernel
theorem dX4_spells_19 : decode cX4_spells 19 = .ok (.istore_n 2, 1) := by decide +kernel
theorem dX4_spells_20 : decode cX4_spells 20 = .ok (.iload_n 2, 1) := by decide +kernel
theorem dX4_spells_21 : decode cX4_spells 21 = .ok (.aload_n 1, 1) := by decide +kernel
theorem dX4_spells_22 : decode cX4_spells 22 = .ok (.invokevirtual 181, 3) := by decide +kernel
theorem dX4_spells_25 : decode cX4_spells 25 = .ok (.if_icmp .ge 29, 3) := by decide +kernel
theorem dX4_spells_28 : decode cX4_spells 28 = .ok (.aload_n 0, 1) := by decide +kernel
theorem dX4_spells_29 : decode cX4_spells 29 = .ok (.aload_n 0, 1) := by decide +kernel
theorem dX4_spells_30 : decode cX4_spells 30 = .ok (.getfield 55, 3) := by decide +kernel
theorem dX4_spells_33 : decode cX4_spells 33 = .ok (.iload_n 2, 1) := by decide +kernel
theorem dX4_spells_34 : decode cX4_spells 34 = .ok (.iadd, 1) := by decide +kernel
theorem dX4_spells_35 : decode cX4_spells 35 = .ok (.invokevirtual 141, 3) := by decide +kernel
theorem dX4_spells_38 : decode cX4_spells 38 = .ok (.aload_n 1, 1) := by decide +kernel
theorem dX4_spells_39 : decode cX4_spells 39 = .ok (.iload_n 2, 1) := by decide +kernel
theorem dX4_spells_40 : decode cX4_spells 40 = .ok (.invokevirtual 183, 3) := by decide +kernel
theorem dX4_spells_43 : decode cX4_spells 43 = .ok (.if_icmp .eq 5, 3) := by decide +kernel
theorem dX4_spells_46 : decode cX4_spells 46 = .ok (.iconst 0, 1) := by decide +kernel
theorem dX4_spells_47 : decode cX4_spells 47 = .ok (.ireturn, 1) := by decide +kernel
theorem dX4_spells_48 : decode cX4_spells 48 = .ok (.iinc 2 1, 3) := by decide +kernel
theorem dX4_spells_51 : decode cX4_spells 51 = .ok (.goto (-31), 3) := by decide +kernel
theorem dX4_spells_54 : decode cX4_spells 54 = .ok (.iconst 1, 1) := by decide +kernel
theorem dX4_spells_55 : decode cX4_spells 55 = .ok (.ireturn, 1) := by decide +kernel
theorem dX4_scanNumber_0 : decode cX4_scanNumber 0 = .ok (.aload_n 0, 1) := by decide +kernel
theorem dX4_scanNumber_1 : decode cX4_scanNumber 1 = .ok (.iconst 0, 1) := by decide +kernel
theorem dX4_scanNumber_2 : decode cX4_scanNumber 2 = .ok (.putfield 97, 3) := by decide +kernel
theorem dX4_scanNumber_5 : decode cX4_scanNumber 5 = .ok (.iconst 0, 1) := by decide +kernel
theorem dX4_scanNumber_6 : decode cX4_scanNumber 6 = .ok (.istore_n 1, 1) := by decide +kernel
theorem dX4_scanNumber_7 : decode cX4_scanNumber 7 = .ok (.iload_n 1, 1) := by decide +kernel
theorem dX4_scanNumber_8 : decode cX4_scanNumber 8 = .ok (.aload_n 0, 1) := by decide +kernel
theorem dX4_scanNumber_9 : decode cX4_scanNumber 9 = .ok (.getfield 30, 3) := by decide +kernel
theorem dX4_scanNumber_12 : decode cX4_scanNumber 12 = .ok (.if_icmp .gt 68, 3) := by decide +kernel
theorem dX4_scanNumber_15 : decode cX4_scanNumber 15 = .ok (.aload_n 0, 1) := by decide +kernel
theorem dX4_scanNumber_16 : decode cX4_scanNumber 16 = .ok (.aload_n 0, 1) := by decide +kernel
theorem dX4_scanNumber_17 : decode cX4_scanNumber 17 = .ok (.getfield 33, 3) := by decide +kernel
theorem dX4_scanNumber_20 : decode cX4_scanNumber 20 = .ok (.invokevirtual 141, 3) := by decide +kernel
theorem dX4_scanNumber_23 : decode cX4_scanNumber 23 = .ok (.invokestatic 154, 3) := by decide +kernel
theorem dX4_scanNumber_26 : decode cX4_scanNumber 26 = .ok (.ifCond .eq 54, 3) := by decide +kernel
theorem dX4_scanNumber_29 : decode cX4_scanNumber 29 = .ok (.aload_n 0, 1) := by decide +kernel
theorem dX4_scanNumber_30 : decode cX4_scanNumber 30 = .ok (.iload_n 1, 1) := by decide +kernel
theorem dX4_scanNumber_31 : decode cX4_scanNumber 31 = .ok (.iconst 5, 1) := by decide +kernel
theorem dX4_scanNumber_32 : decode cX4_scanNumber 32 = .ok (.if_icmp .ge 25, 3) := by decide +kernel
theorem dX4_scanNumber_35 : decode cX4_scanNumber 35 = .ok (.aload_n 0, 1) := by decide +kernel
theorem dX4_scanNumber_36 : decode cX4_scanNumber 36 = .ok (.getfield 97, 3) := by decide +kernel
theorem dX4_scanNumber_39 : decode cX4_scanNumber 39 = .ok (.bipush 10, 2) := by decide +kernel
theorem dX4_scanNumber_41 : decode cX4_scanNumber 41 = .ok (.imul, 1) := by decide +kernel
theorem dX4_scanNumber_42 : decode cX4_scanNumber 42 = .ok (.aload_n 0, 1) := by decide +kernel
theorem dX4_scanNumber_43 : decode cX4_scanNumber 43 = .ok (.aload_n 0, 1) := by decide +kernel
theorem dX4_scanNumber_44 : decode cX4_scanNumber 44 = .ok (.getfield 33, 3) := by decide +kernel
theorem dX4_scanNumber_47 : decode cX4_scanNumber 47 = .ok (.invokevirtual 141, 3) := by decide +kernel
theorem dX4_scanNumber_50 : decode cX4_scanNumber 50 = .ok (.iadd, 1) := by decide +kernel
theorem dX4_scanNumber_51 : decode cX4_scanNumber 51 = .ok (.bipush 48, 2) := by decide +kernel
theorem dX4_scanNumber_53 : decode cX4_scanNumber 53 = .ok (.isub, 1) := by decide +kernel
theorem dX4_scanNumber_54 : decode cX4_scanNumber 54 = .ok (.goto 7, 3) := by decide +kernel
theorem dX4_scanNumber_57 : decode cX4_scanNumber 57 = .ok (.aload_n 0, 1) := by decide +kernel
theorem dX4_scanNumber_58 : decode cX4_scanNumber 58 = .ok (.getfield 97, 3) := by decide +kernel
theorem dX4_scanNumber_61 : decode cX4_scanNumber 61 = .ok (.putfield 97, 3) := by decide +kernel
theorem dX4_scanNumber_64 : decode cX4_scanNumber 64 = .ok (.aload_n 0, 1) := by decide +kernel
theorem dX4_scanNumber_65 : decode cX4_scanNumber 65 = .ok (.dup, 1) := by decide +kernel
theorem dX4_scanNumber_66 : decode cX4_scanNumber 66 = .ok (.getfield 33, 3) := by decide +kernel
theorem dX4_scanNumber_69 : decode cX4_scanNumber 69 = .ok (.iconst 1, 1) := by decide +kernel
theorem dX4_scanNumber_70 : decode cX4_scanNumber 70 = .ok (.iadd, 1) := by decide +kernel
theorem dX4_scanNumber_71 : decode cX4_scanNumber 71 = .ok (.putfield 33, 3) := by decide +kernel
theorem dX4_scanNumber_74 : decode cX4_scanNumber 74 = .ok (.iinc 1 1, 3) := by decide +kernel
theorem dX4_scanNumber_77 : decode cX4_scanNumber 77 = .ok (.goto (-70), 3) := by decide +kernel
theorem dX4_scanNumber_80 : decode cX4_scanNumber 80 = .ok (.aload_n 0, 1) := by decide +kernel
theorem dX4_scanNumber_81 : decode cX4_scanNumber 81 = .ok (.getfield 33, 3) := by decide +kernel
theorem dX4_scanNumber_84 : decode cX4_scanNumber 84 = .ok (.aload_n 0, 1) := by decide +kernel
theorem dX4_scanNumber_85 : decode cX4_scanNumber 85 = .ok (.getfield 55, 3) := by decide +kernel
theorem dX4_scanNumber_88 : decode cX4_scanNumber 88 = .ok (.isub, 1) := by decide +kernel
theorem dX4_scanNumber_89 : decode cX4_scanNumber 89 = .ok (.iconst 5, 1) := by decide +kernel
theorem dX4_scanNumber_90 : decode cX4_scanNumber 90 = .ok (.if_icmp .le 7, 3) := by decide +kernel
theorem dX4_scanNumber_93 : decode cX4_scanNumber 93 = .ok (.iconst 1, 1) := by decide +kernel
theorem dX4_scanNumber_94 : decode cX4_scanNumber 94 = .ok (.goto 4, 3) := by decide +kernel
theorem dX4_scanNumber_97 : decode cX4_scanNumber 97 = .ok (.iconst 2, 1) := by decide +kernel
theorem dX4_scanNumber_98 : decode cX4_scanNumber 98 = .ok (.ireturn, 1) := by decide +kernel
theorem dX5_init_0 : decode cX5_init 0 = .ok (.aload_n 0, 1) := by decide +kernel
theorem dX5_init_1 : decode cX5_init 1 = .ok (.invokespecial 3, 3) := by decide +kernel
theorem dX5_init_4 : decode cX5_init 4 = .ok (.aload_n 0, 1) := by decide +kernel
theorem dX5_init_5 : decode cX5_init 5 = .ok (.new 9, 3) := by decide +kernel
theorem dX5_init_8 : decode cX5_init 8 = .ok (.dup, 1) := by decide +kernel
theorem dX5_init_9 : decode cX5_init 9 = .ok (.invokespecial 11, 3) := by decide +kernel
theorem dX5_init_12 : decode cX5_init 12 = .ok (.putfield 12, 3) := by decide +kernel
theorem dX5_init_15 : decode cX5_init 15 = .ok (.aload_n 0, 1) := by decide +kernel
theorem dX5_init_16 : decode cX5_init 16 = .ok (.sipush 240, 3) := by decide +kernel
theorem dX5_init_19 : decode cX5_init 19 = .ok (.newarray .int, 2) := by decide +kernel
theorem dX5_init_21 : decode cX5_init 21 = .ok (.putfield 18, 3) := by decide +kernel
theorem dX5_init_24 : decode cX5_init 24 = .ok (.return_, 1) := by decide +kernel
theorem dX5_begin_0 : decode cX5_begin 0 = .ok (.aload_n 0, 1) := by decide +kernel
theorem dX5_begin_1 : decode cX5_begin 1 = .ok (.iconst 1, 1) := by decide +kernel
theorem dX5_begin_2 : decode cX5_begin 2 = .ok (.putfield 22, 3) := by decide +kernel
theorem dX5_begin_5 : decode cX5_begin 5 = .ok (.aload_n 0, 1) := by decide +kernel
theorem dX5_begin_6 : decode cX5_begin 6 = .ok (.iload_n 1, 1) := by decide +kernel
theorem dX5_begin_7 : decode cX5_begin 7 = .ok (.putfield 26, 3) := by decide +kernel
theorem dX5_begin_10 : decode cX5_begin 10 = .ok (.aload_n 0, 1) := by decide +kernel
theorem dX5_begin_11 : decode cX5_begin 11 = .ok (.iload_n 2, 1) := by decide +kernel
theorem dX5_begin_12 : decode cX5_begin 12 = .ok (.putfield 30, 3) := by decide +kernel
theorem dX5_begin_15 : decode cX5_begin 15 = .ok (.aload_n 0, 1) := by decide +kernel
theorem dX5_begin_16 : decode cX5_begin 16 = .ok (.iload_n 3, 1) := by decide +kernel
theorem dX5_begin_17 : decode cX5_begin 17 = .ok (.putfield 33, 3) := by decide +kernel
theorem dX5_begin_20 : decode cX5_begin 20 = .ok (.aload_n 0, 1) := by decide +kernel
theorem dX5_begin_21 : decode cX5_begin 21 = .ok (.iload 4, 2) := by decide +kernel
theorem dX5_begin_23 : decode cX5_begin 23 = .ok (.putfield 36, 3) := by decide +kernel
theorem dX5_begin_26 : decode cX5_begin 26 = .ok (.aload_n 0, 1) := by decide +kernel
theorem dX5_begin_27 : decode cX5_begin 27 = .ok (.iconst 1, 1) := by decide +kernel
theorem dX5_begin_28 : decode cX5_begin 28 = .ok (.putfield 39, 3) := by decide +kernel
theorem dX5_begin_31 : decode cX5_begin 31 = .ok (.aload_n 0, 1) := by decide +kernel
theorem dX5_begin_32 : decode cX5_begin 32 = .ok (.iconst 0, 1) := by decide +kernel
theorem dX5_begin_33 : decode cX5_begin 33 = .ok (.putfield 42, 3) := by decide +kernel
theorem dX5_begin_36 : decode cX5_begin 36 = .ok (.aload_n 0, 1) := by decide +kernel
theorem dX5_begin_37 : decode cX5_begin 37 = .ok (.iconst 0, 1) := by decide +kernel
theorem dX5_begin_38 : decode cX5_begin 38 = .ok (.putfield 45, 3) := by decide +kernel
theorem dX5_begin_41 : decode cX5_begin 41 = .ok (.aload_n 0, 1) := by decide +kernel
theorem dX5_begin_42 : decode cX5_begin 42 = .ok (.getfield 12, 3) := by decide +kernel
theorem dX5_begin_45 : decode cX5_begin 45 = .ok (.invokevirtual 48, 3) := by decide +kernel
theorem dX5_begin_48 : decode cX5_begin 48 = .ok (.aload_n 0, 1) := by decide +kernel
theorem dX5_begin_49 : decode cX5_begin 49 = .ok (.invokevirtual 51, 3) := by decide +kernel
theorem dX5_begin_52 : decode cX5_begin 52 = .ok (.return_, 1) := by decide +kernel
theorem dX5_clearCells_0 : decode cX5_clearCells 0 = .ok (.aload_n 0, 1) := by decide +kernel
theorem dX5_clearCells_1 : decode cX5_clearCells 1 = .ok (.getfield 18, 3) := by decide +kernel
theorem dX5_clearCells_4 : decode cX5_clearCells 4 = .ok (.iconst 0, 1) := by decide +kernel
theorem dX5_clearCells_5 : decode cX5_clearCells 5 = .ok (.invokestatic 54, 3) := by decide +kernel
theorem dX5_clearCells_8 : decode cX5_clearCells 8 = .ok (.return_, 1) := by decide +kernel
theorem dX5_cellAt_0 : decode cX5_cellAt 0 = .ok (.iload_n 1, 1) := by decide +kernel
theorem dX5_cellAt_1 : decode cX5_cellAt 1 = .ok (.ifCond .lt 21, 3) := by decide +kernel
theorem dX5_cellAt_4 : decode cX5_cellAt 4 = .ok (.iload_n 1, 1) := by decide +kernel
theorem dX5_cellAt_5 : decode cX5_cellAt 5 = .ok (.aload_n 0, 1) := by decide +kernel
theorem dX5_cellAt_6 : decode cX5_cellAt 6 = .ok (.getfield 18, 3) := by decide +kernel
theorem dX5_cellAt_9 : decode cX5_cellAt 9 = .ok (.arraylength, 1) := by decide +kernel
theorem dX5_cellAt_10 : decode cX5_cellAt 10 = .ok (.if_icmp .ge 12, 3) := by decide +kernel
theorem dX5_cellAt_13 : decode cX5_cellAt 13 = .ok (.aload_n 0, 1) := by decide +kernel
theorem dX5_cellAt_14 : decode cX5_cellAt 14 = .ok (.getfield 18, 3) := by decide +kernel
theorem dX5_cellAt_17 : decode cX5_cellAt 17 = .ok (.iload_n 1, 1) := by decide +kernel
theorem dX5_cellAt_18 : decode cX5_cellAt 18 = .ok (.iaload, 1) := by decide +kernel
theorem dX5_cellAt_19 : decode cX5_cellAt 19 = .ok (.goto 4, 3) := by decide +kernel
theorem dX5_cellAt_22 : decode cX5_cellAt 22 = .ok (.iconst 0, 1) := by decide +kernel
theorem dX5_cellAt_23 : decode cX5_cellAt 23 = .ok (.ireturn, 1) := by decide +kernel
theorem dX5_setCell_0 : decode cX5_setCell 0 = .ok (.iload_n 1, 1) := by decide +kernel
theorem dX5_setCell_1 : decode cX5_setCell 1 = .ok (.ifCond .lt 19, 3) := by decide +kernel
theorem dX5_setCell_4 : decode cX5_setCell 4 = .ok (.iload_n 1, 1) := by decide +kernel
theorem dX5_setCell_5 : decode cX5_setCell 5 = .ok (.aload_n 0, 1) := by decide +kernel
theorem dX5_setCell_6 : decode cX5_setCell 6 = .ok (.getfield 18, 3) := by decide +kernel
theorem dX5_setCell_9 : decode cX5_setCell 9 = .ok (.arraylength, 1) := by decide +kernel
theorem dX5_setCell_10 : decode cX5_setCell 10 = .ok (.if_icmp .ge 10, 3) := by decide +kernel
theorem dX5_setCell_13 : decode cX5_setCell 13 = .ok (.aload_n 0, 1) := by decide +kernel
theorem dX5_setCell_14 : decode cX5_setCell 14 = .ok (.getfield 18, 3) := by decide +kernel
theorem dX5_setCell_17 : decode cX5_setCell 17 = .ok (.iload_n 1, 1) := by decide +kernel
theorem dX5_setCell_18 : decode cX5_setCell 18 = .ok (.iload_n 2, 1) := by decide +kernel
theorem dX5_setCell_19 : decode cX5_setCell 19 = .ok (.iastore, 1) := by decide +kernel
theorem dX5_setCell_20 : decode cX5_setCell 20 = .ok (.return_, 1) := by decide +kernel
theorem dX5_places_0 : decode cX5_places 0 = .ok (.aload_n 0, 1) := by decide +kernel
theorem dX5_places_1 : decode cX5_places 1 = .ok (.getfield 26, 3) := by decide +kernel
theorem dX5_places_4 : decode cX5_places 4 = .ok (.iconst 3, 1) := by decide +kernel
theorem dX5_places_5 : decode cX5_places 5 = .ok (.if_icmp .ne 14, 3) := by decide +kernel
theorem dX5_places_8 : decode cX5_places 8 = .ok (.aload_n 0, 1) := by decide +kernel
theorem dX5_places_9 : decode cX5_places 9 = .ok (.aload_n 0, 1) := by decide +kernel
theorem dX5_places_10 : decode cX5_places 10 = .ok (.getfield 39, 3) := by decide +kernel
theorem dX5_places_13 : decode cX5_places 13 = .ok (.invokevirtual 60, 3) := by decide +kernel
theorem dX5_places_16 : decode cX5_places 16 = .ok (.goto 7, 3) := by decide +kernel
theorem dX5_places_19 : decode cX5_places 19 = .ok (.aload_n 0, 1) := by decide +kernel
theorem dX5_places_20 : decode cX5_places 20 = .ok (.getfield 30, 3) := by decide +kernel
theorem dX5_places_23 : decode cX5_places 23 = .ok (.ireturn, 1) := by decide +kernel
theorem dX5_layerStart_0 : decode cX5_layerStart 0 = .ok (.aload_n 0, 1) := by decide +kernel
theorem dX5_layerStart_1 : decode cX5_layerStart 1 = .ok (.getfield 30, 3) := by decide +kernel
theorem dX5_layerStart_4 : decode cX5_layerStart 4 = .ok (.iconst 1, 1) := by decide +kernel
theorem dX5_layerStart_5 : decode cX5_layerStart 5 = .ok (.iload_n 1, 1) := by decide +kernel
theorem dX5_layerStart_6 : decode cX5_layerStart 6 = .ok (.ishl, 1) := by decide +kernel
theorem dX5_layerStart_7 : decode cX5_layerStart 7 = .ok (.iconst 1, 1) := by decide +kernel
theorem dX5_layerStart_8 : decode cX5_layerStart 8 = .ok (.isub, 1) := by decide +kernel
theorem dX5_layerStart_9 : decode cX5_layerStart 9 = .ok (.imul, 1) := by decide +kernel
theorem dX5_layerStart_10 : decode cX5_layerStart 10 = .ok (.ireturn, 1) := by decide +kernel
theorem dX5_layerSize_0 : decode cX5_layerSize 0 = .ok (.aload_n 0, 1) := by decide +kernel
theorem dX5_layerSize_1 : decode cX5_layerSize 1 = .ok (.getfield 30, 3) := by decide +kernel
theorem dX5_layerSize_4 : decode cX5_layerSize 4 = .ok (.iload_n 1, 1) := by decide +kernel
theorem dX5_layerSize_5 : decode cX5_layerSize 5 = .ok (.ishl, 1) := by decide +kernel
theorem dX5_layerSize_6 : decode cX5_layerSize 6 = .ok (.ireturn, 1) := by decide +kernel
theorem dX5_isPlain_0 : decode cX5_isPlain 0 = .ok (.aload_n 0, 1) := by decide +kernel
theorem dX5_isPlain_1 : decode cX5_isPlain 1 = .ok (.getfield 26, 3) := by decide +kernel
theorem dX5_isPlain_4 : decode cX5_isPlain 4 = .ok (.ifCond .eq 11, 3) := by decide +kernel
theorem dX5_isPlain_7 : decode cX5_isPlain 7 = .ok (.aload_n 0, 1) := by decide +kernel
theorem dX5_isPlain_8 : decode cX5_isPlain 8 = .ok (.getfield 26, 3) := by decide +kernel
theorem dX5_isPlain_11 : decode cX5_isPlain 11 = .ok (.iconst 1, 1) := by decide +kernel
theorem dX5_isPlain_12 : decode cX5_isPlain 12 = .ok (.if_icmp .ne 7, 3) := by decide +kernel
theorem dX5_isPlain_15 : decode cX5_isPlain 15 = .ok (.iconst 1, 1) := by decide +kernel
theorem dX5_isPlain_16 : decode cX5_isPlain 16 = .ok (.goto 4, 3) := by decide +kernel
theorem dX5_isPlain_19 : decode cX5_isPlain 19 = .ok (.iconst 0, 1) := by decide +kernel
theorem dX5_isPlain_20 : decode cX5_isPlain 20 = .ok (.ireturn, 1) := by decide +kernel
theorem dX5_fullCell_0 : decode cX5_fullCell 0 = .ok (.aload_n 0, 1) := by decide +kernel
theorem dX5_fullCell_1 : decode cX5_fullCell 1 = .ok (.getfield 26, 3) := by decide +kernel
theorem dX5_fullCell_4 : decode cX5_fullCell 4 = .ok (.iconst 1, 1) := by decide +kernel
theorem dX5_fullCell_5 : decode cX5_fullCell 5 = .ok (.if_icmp .ne 8, 3) := by decide +kernel
theorem dX5_fullCell_8 : decode cX5_fullCell 8 = .ok (.bipush 15, 2) := by decide +kernel
theorem dX5_fullCell_10 : decode cX5_fullCell 10 = .ok (.goto 4, 3) := by decide +kernel
theorem dX5_fullCell_13 : decode cX5_fullCell 13 = .ok (.iconst 1, 1) := by decide +kernel
theorem dX5_fullCell_14 : decode cX5_fullCell 14 = .ok (.ireturn, 1) := by decide +kernel
theorem dX5_says_0 : decode cX5_says 0 = .ok (.aload_n 0, 1) := by decide +kernel
theorem dX5_says_1 : decode cX5_says 1 = .ok (.getfield 26, 3) := by decide +kernel
theorem dX5_says_4 : decode cX5_says 4 = .ok (.iconst 2, 1) := by decide +kernel
theorem dX5_says_5 : decode cX5_says 5 = .ok (.if_icmp .ne 47, 3) := by decide +kernel
theorem dX5_says_8 : decode cX5_says 8 = .ok (.aload_n 0, 1) := by decide +kernel
theorem dX5_says_9 : decode cX5_says 9 = .ok (.aload_n 1, 1) := by decide +kernel
theorem dX5_says_10 : decode cX5_says 10 = .ok (.iload_n 2, 1) := by decide +kernel
theorem dX5_says_11 : decode cX5_says 11 = .ok (.aload_n 1, 1) := by decide +kernel
theorem dX5_says_12 : decode cX5_says 12 = .ok (.iconst 0, 1) := by decide +kernel
theorem dX5_says_13 : decode cX5_says 13 = .ok (.iload_n 2, 1) := by decide +kernel
theorem dX5_says_14 : decode cX5_says 14 = .ok (.aload_n 0, 1) := by decide +kernel
theorem dX5_says_15 : decode cX5_says 15 = .ok (.getfield 30, 3) := by decide +kernel
theorem dX5_says_18 : decode cX5_says 18 = .ok (.invokevirtual 64, 3) := by decide +kernel
theorem dX5_says_21 : decode cX5_says 21 = .ok (.invokevirtual 70, 3) := by decide +kernel
theorem dX5_says_24 : decode cX5_says 24 = .ok (.ifCond .ne 22, 3) := by decide +kernel
theorem dX5_says_27 : decode cX5_says 27 = .ok (.aload_n 0, 1) := by decide +kernel
theorem dX5_says_28 : decode cX5_says 28 = .ok (.aload_n 1, 1) := by decide +kernel
theorem dX5_says_29 : decode cX5_says 29 = .ok (.iload_n 2, 1) := by decide +kernel
theorem dX5_says_30 : decode cX5_says 30 = .ok (.aload_n 1, 1) := by decide +kernel
theorem dX5_says_31 : decode cX5_says 31 = .ok (.iconst 1, 1) := by decide +kernel
theorem dX5_says_32 : decode cX5_says 32 = .ok (.iload_n 2, 1) := by decide +kernel
theorem dX5_says_33 : decode cX5_says 33 = .ok (.aload_n 0, 1) := by decide +kernel
theorem dX5_says_34 : decode cX5_says 34 = .ok (.getfield 30, 3) := by decide +kernel
theorem dX5_says_37 : decode cX5_says 37 = .ok (.invokevirtual 64, 3) := by decide +kernel
theorem dX5_says_40 : decode cX5_says 40 = .ok (.invokevirtual 70, 3) := by decide +kernel
theorem dX5_says_43 : decode cX5_says 43 = .ok (.ifCond .eq 7, 3) := by decide +kernel
theorem dX5_says_46 : decode cX5_says 46 = .ok (.iconst 1, 1) := by decide +kernel
theorem dX5_says_47 : decode cX5_says 47 = .ok (.goto 4, 3) := by decide +kernel
theorem dX5_says_50 : decode cX5_says 50 = .ok (.iconst 0, 1) := by decide +kernel
theorem dX5_says_51 : decode cX5_says 51 = .ok (.ireturn, 1) := by decide +kernel
theorem dX5_says_52 : decode cX5_says 52 = .ok (.aload_n 0, 1) := by decide +kernel
theorem dX5_says_53 : decode cX5_says 53 = .ok (.getfield 26, 3) := by decide +kernel
theorem dX5_says_56 : decode cX5_says 56 = .ok (.iconst 4, 1) := by decide +kernel
theorem dX5_says_57 : decode cX5_says 57 = .ok (.if_icmp .ne 23, 3) := by decide +kernel
theorem dX5_says_60 : decode cX5_says 60 = .ok (.aload_n 0, 1) := by decide +kernel
theorem dX5_says_61 : decode cX5_says 61 = .ok (.aload_n 1, 1) := by decide +kernel
theorem dX5_says_62 : decode cX5_says 62 = .ok (.iload_n 2, 1) := by decide +kernel
theorem dX5_says_63 : decode cX5_says 63 = .ok (.invokevirtual 74, 3) := by decide +kernel
theorem dX5_says_66 : decode cX5_says 66 = .ok (.aload_n 1, 1) := by decide +kernel
theorem dX5_says_67 : decode cX5_says 67 = .ok (.iload_n 2, 1) := by decide +kernel
theorem dX5_says_68 : decode cX5_says 68 = .ok (.invokevirtual 78, 3) := by decide +kernel
theorem dX5_says_71 : decode cX5_says 71 = .ok (.if_icmp .ne 7, 3) := by decide +kernel
theorem dX5_says_74 : decode cX5_says 74 = .ok (.iconst 1, 1) := by decide +kernel
theorem dX5_says_75 : decode cX5_says 75 = .ok (.goto 4, 3) := by decide +kernel
theorem dX5_says_78 : decode cX5_says 78 = .ok (.iconst 0, 1) := by decide +kernel
theorem dX5_says_79 : decode cX5_says 79 = .ok (.ireturn, 1) := by decide +kernel
theorem dX5_says_80 : decode cX5_says 80 = .ok (.iconst 0, 1) := by decide +kernel
theorem dX5_says_81 : decode cX5_says 81 = .ok (.istore_n 3, 1) := by decide +kernel
theorem dX5_says_82 : decode cX5_says 82 = .ok (.iload_n 3, 1) := by decide +kernel
theorem dX5_says_83 : decode cX5_says 83 = .ok (.aload_n 0, 1) := by decide +kernel
theorem dX5_says_84 : decode cX5_says 84 = .ok (.getfield 39, 3) := by decide +kernel
theorem dX5_says_87 : decode cX5_says 87 = .ok (.if_icmp .ge 30, 3) := by decide +kernel
theorem dX5_says_90 : decode cX5_says 90 = .ok (.aload_n 0, 1) := by decide +kernel
theorem dX5_says_91 : decode cX5_says 91 = .ok (.aload_n 1, 1) := by decide +kernel
theorem dX5_says_92 : decode cX5_says 92 = .ok (.iload_n 2, 1) := by decide +kernel
theorem dX5_says_93 : decode cX5_says 93 = .ok (.aload_n 0, 1) := by decide +kernel
theorem dX5_says_94 : decode cX5_says 94 = .ok (.iload_n 3, 1) := by decide +kernel
theorem dX5_says_95 : decode cX5_says 95 = .ok (.invokevirtual 60, 3) := by decide +kernel
theorem dX5_says_98 : decode cX5_says 98 = .ok (.aload_n 0, 1) := by decide +kernel
theorem dX5_says_99 : decode cX5_says 99 = .ok (.iload_n 3, 1) := by decide +kernel
theorem dX5_says_100 : decode cX5_says 100 = .ok (.invokevirtual 81, 3) := by decide +kernel
theorem dX5_says_103 : decode cX5_says 103 = .ok (.invokevirtual 84, 3) := by decide +kernel
theorem dX5_says_106 : decode cX5_says 106 = .ok (.ifCond .eq 5, 3) := by decide +kernel
theorem dX5_says_109 : decode cX5_says 109 = .ok (.iconst 1, 1) := by decide +kernel
theorem dX5_says_110 : decode cX5_says 110 = .ok (.ireturn, 1) := by decide +kernel
theorem dX5_says_111 : decode cX5_says 111 = .ok (.iinc 3 1, 3) := by decide +kernel
theorem dX5_says_114 : decode cX5_says 114 = .ok (.goto (-32), 3) := by decide +kernel
theorem dX5_says_117 : decode cX5_says 117 = .ok (.iconst 0, 1) := by decide +kernel
theorem dX5_says_118 : decode cX5_says 118 = .ok (.ireturn, 1) := by decide +kernel
theorem dX5_allAbove0_0 : decode cX5_allAbove0 0 = .ok (.iconst 0, 1) := by decide +kernel
theorem dX5_allAbove0_1 : decode cX5_allAbove0 1 = .ok (.istore 5, 2) := by decide +kernel
theorem dX5_allAbove0_3 : decode cX5_allAbove0 3 = .ok (.iload 5, 2) := by decide +kernel
theorem dX5_allAbove0_5 : decode cX5_allAbove0 5 = .ok (.aload_n 0, 1) := by decide +kernel
theorem dX5_allAbove0_6 : decode cX5_allAbove0 6 = .ok (.getfield 33, 3) := by decide +kernel
theorem dX5_allAbove0_9 : decode cX5_allAbove0 9 = .ok (.if_icmp .ge 29, 3) := by decide +kernel
theorem dX5_allAbove0_12 : decode cX5_allAbove0 12 = .ok (.aload_n 0, 1) := by decide +kernel
theorem dX5_allAbove0_13 : decode cX5_allAbove0 13 = .ok (.iload_n 3, 1) := by decide +kernel
theorem dX5_allAbove0_14 : decode cX5_allAbove0 14 = .ok (.aload_n 1, 1) := by decide +kernel
theorem dX5_allAbove0_15 : decode cX5_allAbove0 15 = .ok (.iload 5, 2) := by decide +kernel
theorem dX5_allAbove0_17 : decode cX5_allAbove0 17 = .ok (.iload_n 2, 1) := by decide +kernel
theorem dX5_allAbove0_18 : decode cX5_allAbove0 18 = .ok (.iload 4, 2) := by decide +kernel
theorem dX5_allAbove0_20 : decode cX5_allAbove0 20 = .ok (.invokevirtual 64, 3) := by decide +kernel
theorem dX5_allAbove0_23 : decode cX5_allAbove0 23 = .ok (.iadd, 1) := by decide +kernel
theorem dX5_allAbove0_24 : decode cX5_allAbove0 24 = .ok (.invokevirtual 88, 3) := by decide +kernel
theorem dX5_allAbove0_27 : decode cX5_allAbove0 27 = .ok (.ifCond .ne 5, 3) := by decide +kernel
theorem dX5_allAbove0_30 : decode cX5_allAbove0 30 = .ok (.iconst 0, 1) := by decide +kernel
theorem dX5_allAbove0_31 : decode cX5_allAbove0 31 = .ok (.ireturn, 1) := by decide +kernel
theorem dX5_allAbove0_32 : decode cX5_allAbove0 32 = .ok (.iinc 5 1, 3) := by decide +kernel
theorem dX5_allAbove0_35 : decode cX5_allAbove0 35 = .ok (.goto (-32), 3) := by decide +kernel
theorem dX5_allAbove0_38 : decode cX5_allAbove0 38 = .ok (.iconst 1, 1) := by decide +kernel
theorem dX5_allAbove0_39 : decode cX5_allAbove0 39 = .ok (.ireturn, 1) := by decide +kernel
theorem dX5_together_0 : decode cX5_together 0 = .ok (.iconst 0, 1) := by decide +kernel
theorem dX5_together_1 : decode cX5_together 1 = .ok (.istore_n 3, 1) := by decide +kernel
theorem dX5_together_2 : decode cX5_together 2 = .ok (.iconst 0, 1) := by decide +kernel
theorem dX5_together_3 : decode cX5_together 3 = .ok (.istore 4, 2) := by decide +kernel
theorem dX5_together_5 : decode cX5_together 5 = .ok (.iload 4, 2) := by decide +kernel
theorem dX5_together_7 : decode cX5_together 7 = .ok (.aload_n 0, 1) := by decide +kernel
theorem dX5_together_8 : decode cX5_together 8 = .ok (.getfield 33, 3) := by decide +kernel
theorem dX5_together_11 : decode cX5_together 11 = .ok (.if_icmp .ge 27, 3) := by decide +kernel
theorem dX5_together_14 : decode cX5_together 14 = .ok (.iload_n 3, 1) := by decide +kernel
theorem dX5_together_15 : decode cX5_together 15 = .ok (.aload_n 0, 1) := by decide +kernel
theorem dX5_together_16 : decode cX5_together 16 = .ok (.aload_n 1, 1) := by decide +kernel
theorem dX5_together_17 : decode cX5_together 17 = .ok (.iload 4, 2) := by decide +kernel
theorem dX5_together_19 : decode cX5_together 19 = .ok (.iload_n 2, 1) := by decide +kernel
theorem dX5_together_20 : decode cX5_together 20 = .ok (.aload_n 0, 1) := by decide +kernel
theorem dX5_together_21 : decode cX5_together 21 = .ok (.getfield 30, 3) := by decide +kernel
theorem dX5_together_24 : decode cX5_together 24 = .ok (.invokevirtual 64, 3) := by decide +kernel
theorem dX5_together_27 : decode cX5_together 27 = .ok (.invokevirtual 88, 3) := by decide +kernel
theorem dX5_together_30 : decode cX5_together 30 = .ok (.ixor, 1) := by decide +kernel
theorem dX5_together_31 : decode cX5_together 31 = .ok (.istore_n 3, 1) := by decide +kernel
theorem dX5_together_32 : decode cX5_together 32 = .ok (.iinc 4 1, 3) := by decide +kernel
theorem dX5_together_35 : decode cX5_together 35 = .ok (.goto (-30), 3) := by decide +kernel
theorem dX5_together_38 : decode cX5_together 38 = .ok (.iload_n 3, 1) := by decide +kernel
theorem dX5_together_39 : decode cX5_together 39 = .ok (.ireturn, 1) := by decide +kernel
theorem dX5_mark_0 : decode cX5_mark 0 = .ok (.aload_n 0, 1) := by decide +kernel
theorem dX5_mark_1 : decode cX5_mark 1 = .ok (.getfield 26, 3) := by decide +kernel
theorem dX5_mark_4 : decode cX5_mark 4 = .ok (.iconst 3, 1) := by decide +kernel
theorem dX5_mark_5 : decode cX5_mark 5 = .ok (.if_icmp .ne 39, 3) := by decide +kernel
theorem dX5_mark_8 : decode cX5_mark 8 = .ok (.aload_n 0, 1) := by decide +kernel
theorem dX5_mark_9 : decode cX5_mark 9 = .ok (.getfield 45, 3) := by decide +kernel
theorem dX5_mark_12 : decode cX5_mark 12 = .ok (.aload_n 0, 1) := by decide +kernel
theorem dX5_mark_13 : decode cX5_mark 13 = .ok (.getfield 36, 3) := by decide +kernel
theorem dX5_mark_16 : decode cX5_mark 16 = .ok (.if_icmp .lt 28, 3) := by decide +kernel
theorem dX5_mark_19 : decode cX5_mark 19 = .ok (.aload_n 0, 1) := by decide +kernel
theorem dX5_mark_20 : decode cX5_mark 20 = .ok (.getfield 39, 3) := by decide +kernel
theorem dX5_mark_23 : decode cX5_mark 23 = .ok (.iconst 4, 1) := by decide +kernel
theorem dX5_mark_24 : decode cX5_mark 24 = .ok (.if_icmp .lt 5, 3) := by decide +kernel
theorem dX5_mark_27 : decode cX5_mark 27 = .ok (.iconst 0, 1) := by decide +kernel
theorem dX5_mark_28 : decode cX5_mark 28 = .ok (.ireturn, 1) := by decide +kernel
theorem dX5_mark_29 : decode cX5_mark 29 = .ok (.aload_n 0, 1) := by decide +kernel
theorem dX5_mark_30 : decode cX5_mark 30 = .ok (.dup, 1) := by decide +kernel
theorem dX5_mark_31 : decode cX5_mark 31 = .ok (.getfield 39, 3) := by decide +kernel
theorem dX5_mark_34 : decode cX5_mark 34 = .ok (.iconst 1, 1) := by decide +kernel
theorem dX5_mark_35 : decode cX5_mark 35 = .ok (.iadd, 1) := by decide +kernel
theorem dX5_mark_36 : decode cX5_mark 36 = .ok (.putfield 39, 3) := by decide +kernel
theorem dX5_mark_39 : decode cX5_mark 39 = .ok (.aload_n 0, 1) := by decide +kernel
theorem dX5_mark_40 : decode cX5_mark 40 = .ok (.iconst 0, 1) := by decide +kernel
theorem dX5_mark_41 : decode cX5_mark 41 = .ok (.putfield 45, 3) := by decide +kernel
theorem dX5_mark_44 : decode cX5_mark 44 = .ok (.aload_n 0, 1) := by decide +kernel
theorem dX5_mark_45 : decode cX5_mark 45 = .ok (.aload_n 1, 1) := by decide +kernel
theorem dX5_mark_46 : decode cX5_mark 46 = .ok (.iload_n 2, 1) := by decide +kernel
theorem dX5_mark_47 : decode cX5_mark 47 = .ok (.aload_n 0, 1) := by decide +kernel
theorem dX5_mark_48 : decode cX5_mark 48 = .ok (.aload_n 0, 1) := by decide +kernel
theorem dX5_mark_49 : decode cX5_mark 49 = .ok (.getfield 39, 3) := by decide +kernel
theorem dX5_mark_52 : decode cX5_mark 52 = .ok (.iconst 1, 1) := by decide +kernel
theorem dX5_mark_53 : decode cX5_mark 53 = .ok (.isub, 1) := by decide +kernel
theorem dX5_mark_54 : decode cX5_mark 54 = .ok (.invokevirtual 60, 3) := by decide +kernel
theorem dX5_mark_57 : decode cX5_mark 57 = .ok (.aload_n 0, 1) := by decide +kernel
theorem dX5_mark_58 : decode cX5_mark 58 = .ok (.aload_n 0, 1) := by decide +kernel
theorem dX5_mark_59 : decode cX5_mark 59 = .ok (.getfield 39, 3) := by decide +kernel
theorem dX5_mark_62 : decode cX5_mark 62 = .ok (.iconst 1, 1) := by decide +kernel
theorem dX5_mark_63 : decode cX5_mark 63 = .ok (.isub, 1) := by decide +kernel
theorem dX5_mark_64 : decode cX5_mark 64 = .ok (.invokevirtual 81, 3) := by decide +kernel
theorem dX5_mark_67 : decode cX5_mark 67 = .ok (.invokevirtual 91, 3) := by decide +kernel
theorem dX5_mark_70 : decode cX5_mark 70 = .ok (.aload_n 0, 1) := by decide +kernel
theorem dX5_mark_71 : decode cX5_mark 71 = .ok (.dup, 1) := by decide +kernel
theorem dX5_mark_72 : decode cX5_mark 72 = .ok (.getfield 45, 3) := by decide +kernel
theorem dX5_mark_75 : decode cX5_mark 75 = .ok (.iconst 1, 1) := by decide +kernel
theorem dX5_mark_76 : decode cX5_mark 76 = .ok (.iadd, 1) := by decide +kernel
theorem dX5_mark_77 : decode cX5_mark 77 = .ok (.putfield 45, 3) := by decide +kernel
theorem dX5_mark_80 : decode cX5_mark 80 = .ok (.iconst 1, 1) := by decide +kernel
theorem dX5_mark_81 : decode cX5_mark 81 = .ok (.ireturn, 1) := by decide +kernel
theorem dX5_raise_0 : decode cX5_raise 0 = .ok (.iconst 0, 1) := by decide +kernel
theorem dX5_raise_1 : decode cX5_raise 1 = .ok (.istore 5, 2) := by decide +kernel
theorem dX5_raise_3 : decode cX5_raise 3 = .ok (.iload 5, 2) := by decide +kernel
theorem dX5_raise_5 : decode cX5_raise 5 = .ok (.aload_n 0, 1) := by decide +kernel
theorem dX5_raise_6 : decode cX5_raise 6 = .ok (.getfield 33, 3) := by decide +kernel
theorem dX5_raise_9 : decode cX5_raise 9 = .ok (.if_icmp .ge 43, 3) := by decide +kernel
theorem dX5_raise_12 : decode cX5_raise 12 = .ok (.iload_n 3, 1) := by decide +kernel
theorem dX5_raise_13 : decode cX5_raise 13 = .ok (.aload_n 1, 1) := by decide +kernel
theorem dX5_raise_14 : decode cX5_raise 14 = .ok (.iload 5, 2) := by decide +kernel
theorem dX5_raise_16 : decode cX5_raise 16 = .ok (.iload_n 2, 1) := by decide +kernel
theorem dX5_raise_17 : decode cX5_raise 17 = .ok (.iload 4, 2) := by decide +kernel
theorem dX5_raise_19 : decode cX5_raise 19 = .ok (.invokevirtual 64, 3) := by decide +kernel
theorem dX5_raise_22 : decode cX5_raise 22 = .ok (.iadd, 1) := by decide +kernel
theorem dX5_raise_23 : decode cX5_raise 23 = .ok (.istore 6, 2) := by decide +kernel
theorem dX5_raise_25 : decode cX5_raise 25 = .ok (.aload_n 0, 1) := by decide +kernel
theorem dX5_raise_26 : decode cX5_raise 26 = .ok (.iload 6, 2) := by decide +kernel
theorem dX5_raise_28 : decode cX5_raise 28 = .ok (.aload_n 0, 1) := by decide +kernel
theorem dX5_raise_29 : decode cX5_raise 29 = .ok (.iload 6, 2) := by decide +kernel
theorem dX5_raise_31 : decode cX5_raise 31 = .ok (.invokevirtual 88, 3) := by decide +kernel
theorem dX5_raise_34 : decode cX5_raise 34 = .ok (.iconst 1, 1) := by decide +kernel
theorem dX5_raise_35 : decode cX5_raise 35 = .ok (.iadd, 1) := by decide +kernel
theorem dX5_raise_36 : decode cX5_raise 36 = .ok (.aload_n 0, 1) := by decide +kernel
theorem dX5_raise_37 : decode cX5_raise 37 = .ok (.invokevirtual 95, 3) := by decide +kernel
theorem dX5_raise_40 : decode cX5_raise 40 = .ok (.invokestatic 99, 3) := by decide +kernel
theorem dX5_raise_43 : decode cX5_raise 43 = .ok (.invokevirtual 105, 3) := by decide +kernel
theorem dX5_raise_46 : decode cX5_raise 46 = .ok (.iinc 5 1, 3) := by decide +kernel
theorem dX5_raise_49 : decode cX5_raise 49 = .ok (.goto (-46), 3) := by decide +kernel
theorem dX5_raise_52 : decode cX5_raise 52 = .ok (.return_, 1) := by decide +kernel
theorem dX5_unmark_0 : decode cX5_unmark 0 = .ok (.iconst 0, 1) := by decide +kernel
theorem dX5_unmark_1 : decode cX5_unmark 1 = .ok (.istore_n 3, 1) := by decide +kernel
theorem dX5_unmark_2 : decode cX5_unmark 2 = .ok (.iload_n 3, 1) := by decide +kernel
theorem dX5_unmark_3 : decode cX5_unmark 3 = .ok (.aload_n 0, 1) := by decide +kernel
theorem dX5_unmark_4 : decode cX5_unmark 4 = .ok (.getfield 33, 3) := by decide +kernel
theorem dX5_unmark_7 : decode cX5_unmark 7 = .ok (.if_icmp .ge 51, 3) := by decide +kernel
theorem dX5_unmark_10 : decode cX5_unmark 10 = .ok (.aload_n 1, 1) := by decide +kernel
theorem dX5_unmark_11 : decode cX5_unmark 11 = .ok (.iload_n 3, 1) := by decide +kernel
theorem dX5_unmark_12 : decode cX5_unmark 12 = .ok (.iload_n 2, 1) := by decide +kernel
theorem dX5_unmark_13 : decode cX5_unmark 13 = .ok (.aload_n 0, 1) := by decide +kernel
theorem dX5_unmark_14 : decode cX5_unmark 14 = .ok (.getfield 30, 3) := by decide +kernel
theorem dX5_unmark_17 : decode cX5_unmark 17 = .ok (.invokevirtual 64, 3) := by decide +kernel
theorem dX5_unmark_20 : decode cX5_unmark 20 = .ok (.istore 4, 2) := by decide +kernel
theorem dX5_unmark_22 : decode cX5_unmark 22 = .ok (.aload_n 0, 1) := by decide +kernel
theorem dX5_unmark_23 : decode cX5_unmark 23 = .ok (.iload 4, 2) := by decide +kernel
theorem dX5_unmark_25 : decode cX5_unmark 25 = .ok (.invokevirtual 88, 3) := by decide +kernel
theorem dX5_unmark_28 : decode cX5_unmark 28 = .ok (.istore 5, 2) := by decide +kernel
theorem dX5_unmark_30 : decode cX5_unmark 30 = .ok (.iload 5, 2) := by decide +kernel
theorem dX5_unmark_32 : decode cX5_unmark 32 = .ok (.ifCond .le 20, 3) := by decide +kernel
theorem dX5_unmark_35 : decode cX5_unmark 35 = .ok (.iload 5, 2) := by decide +kernel
theorem dX5_unmark_37 : decode cX5_unmark 37 = .ok (.bipush 15, 2) := by decide +kernel
theorem dX5_unmark_39 : decode cX5_unmark 39 = .ok (.if_icmp .ge 13, 3) := by decide +kernel
theorem dX5_unmark_42 : decode cX5_unmark 42 = .ok (.aload_n 0, 1) := by decide +kernel
theorem dX5_unmark_43 : decode cX5_unmark 43 = .ok (.iload 4, 2) := by decide +kernel
theorem dX5_unmark_45 : decode cX5_unmark 45 = .ok (.iload 5, 2) := by decide +kernel
theorem dX5_unmark_47 : decode cX5_unmark 47 = .ok (.iconst 1, 1) := by decide +kernel
theorem dX5_unmark_48 : decode cX5_unmark 48 = .ok (.isub, 1) := by decide +kernel
theorem dX5_unmark_49 : decode cX5_unmark 49 = .ok (.invokevirtual 105, 3) := by decide +kernel
theorem dX5_unmark_52 : decode cX5_unmark 52 = .ok (.iinc 3 1, 3) := by decide +kernel
theorem dX5_unmark_55 : decode cX5_unmark 55 = .ok (.goto (-53), 3) := by decide +kernel
theorem dX5_unmark_58 : decode cX5_unmark 58 = .ok (.return_, 1) := by decide +kernel
theorem dX5_absorb_0 : decode cX5_absorb 0 = .ok (.iconst 0, 1) := by decide +kernel
theorem dX5_absorb_1 : decode cX5_absorb 1 = .ok (.istore_n 2, 1) := by decide +kernel
theorem dX5_absorb_2 : decode cX5_absorb 2 = .ok (.iload_n 2, 1) := by decide +kernel
theorem dX5_absorb_3 : decode cX5_absorb 3 = .ok (.aload_n 0, 1) := by decide +kernel
theorem dX5_absorb_4 : decode cX5_absorb 4 = .ok (.getfield 30, 3) := by decide +kernel
theorem dX5_absorb_7 : decode cX5_absorb 7 = .ok (.if_icmp .ge 32, 3) := by decide +kernel
theorem dX5_absorb_10 : decode cX5_absorb 10 = .ok (.aload_n 0, 1) := by decide +kernel
theorem dX5_absorb_11 : decode cX5_absorb 11 = .ok (.iload_n 2, 1) := by decide +kernel
theorem dX5_absorb_12 : decode cX5_absorb 12 = .ok (.aload_n 0, 1) := by decide +kernel
theorem dX5_absorb_13 : decode cX5_absorb 13 = .ok (.iload_n 2, 1) := by decide +kernel
theorem dX5_absorb_14 : decode cX5_absorb 14 = .ok (.invokevirtual 88, 3) := by decide +kernel
theorem dX5_absorb_17 : decode cX5_absorb 17 = .ok (.aload_n 1, 1) := by decide +kernel
theorem dX5_absorb_18 : decode cX5_absorb 18 = .ok (.iload_n 2, 1) := by decide +kernel
theorem dX5_absorb_19 : decode cX5_absorb 19 = .ok (.invokevirtual 88, 3) := by decide +kernel
theorem dX5_absorb_22 : decode cX5_absorb 22 = .ok (.iadd, 1) := by decide +kernel
theorem dX5_absorb_23 : decode cX5_absorb 23 = .ok (.aload_n 0, 1) := by decide +kernel
theorem dX5_absorb_24 : decode cX5_absorb 24 = .ok (.invokevirtual 95, 3) := by decide +kernel
theorem dX5_absorb_27 : decode cX5_absorb 27 = .ok (.invokestatic 99, 3) := by decide +kernel
theorem dX5_absorb_30 : decode cX5_absorb 30 = .ok (.invokevirtual 105, 3) := by decide +kernel
theorem dX5_absorb_33 : decode cX5_absorb 33 = .ok (.iinc 2 1, 3) := by decide +kernel
theorem dX5_absorb_36 : decode cX5_absorb 36 = .ok (.goto (-34), 3) := by decide +kernel
theorem dX5_absorb_39 : decode cX5_absorb 39 = .ok (.aload_n 0, 1) := by decide +kernel
theorem dX5_absorb_40 : decode cX5_absorb 40 = .ok (.getfield 12, 3) := by decide +kernel
theorem dX5_absorb_43 : decode cX5_absorb 43 = .ok (.aload_n 1, 1) := by decide +kernel
theorem dX5_absorb_44 : decode cX5_absorb 44 = .ok (.getfield 12, 3) := by decide +kernel
theorem dX5_absorb_47 : decode cX5_absorb 47 = .ok (.invokevirtual 109, 3) := by decide +kernel
theorem dX5_absorb_50 : decode cX5_absorb 50 = .ok (.return_, 1) := by decide +kernel
theorem dX5_fold_0 : decode cX5_fold 0 = .ok (.aload_n 0, 1) := by decide +kernel
theorem dX5_fold_1 : decode cX5_fold 1 = .ok (.getfield 30, 3) := by decide +kernel
theorem dX5_fold_4 : decode cX5_fold 4 = .ok (.iconst 2, 1) := by decide +kernel
theorem dX5_fold_5 : decode cX5_fold 5 = .ok (.idiv, 1) := by decide +kernel
theorem dX5_fold_6 : decode cX5_fold 6 = .ok (.istore_n 1, 1) := by decide +kernel
theorem dX5_fold_7 : decode cX5_fold 7 = .ok (.iconst 0, 1) := by decide +kernel
theorem dX5_fold_8 : decode cX5_fold 8 = .ok (.istore_n 2, 1) := by decide +kernel
theorem dX5_fold_9 : decode cX5_fold 9 = .ok (.iload_n 2, 1) := by decide +kernel
theorem dX5_fold_10 : decode cX5_fold 10 = .ok (.iload_n 1, 1) := by decide +kernel
theorem dX5_fold_11 : decode cX5_fold 11 = .ok (.if_icmp .ge 42, 3) := by decide +kernel
theorem dX5_fold_14 : decode cX5_fold 14 = .ok (.aload_n 0, 1) := by decide +kernel
theorem dX5_fold_15 : decode cX5_fold 15 = .ok (.iload_n 2, 1) := by decide +kernel
theorem dX5_fold_16 : decode cX5_fold 16 = .ok (.aload_n 0, 1) := by decide +kernel
theorem dX5_fold_17 : decode cX5_fold 17 = .ok (.iload_n 2, 1) := by decide +kernel
theorem dX5_fold_18 : decode cX5_fold 18 = .ok (.invokevirtual 88, 3) := by decide +kernel
theorem dX5_fold_21 : decode cX5_fold 21 = .ok (.aload_n 0, 1) := by decide +kernel
theorem dX5_fold_22 : decode cX5_fold 22 = .ok (.iload_n 2, 1) := by decide +kernel
theorem dX5_fold_23 : decode cX5_fold 23 = .ok (.iload_n 1, 1) := by decide +kernel
theorem dX5_fold_24 : decode cX5_fold 24 = .ok (.iadd, 1) := by decide +kernel
theorem dX5_fold_25 : decode cX5_fold 25 = .ok (.invokevirtual 88, 3) := by decide +kernel
theorem dX5_fold_28 : decode cX5_fold 28 = .ok (.iadd, 1) := by decide +kernel
theorem dX5_fold_29 : decode cX5_fold 29 = .ok (.aload_n 0, 1) := by decide +kernel
theorem dX5_fold_30 : decode cX5_fold 30 = .ok (.invokevirtual 95, 3) := by decide +kernel
theorem dX5_fold_33 : decode cX5_fold 33 = .ok (.invokestatic 99, 3) := by decide +kernel
theorem dX5_fold_36 : decode cX5_fold 36 = .ok (.invokevirtual 105, 3) := by decide +kernel
theorem dX5_fold_39 : decode cX5_fold 39 = .ok (.aload_n 0, 1) := by decide +kernel
theorem dX5_fold_40 : decode cX5_fold 40 = .ok (.iload_n 2, 1) := by decide +kernel
theorem dX5_fold_41 : decode cX5_fold 41 = .ok (.iload_n 1, 1) := by decide +kernel
theorem dX5_fold_42 : decode cX5_fold 42 = .ok (.iadd, 1) := by decide +kernel
theorem dX5_fold_43 : decode cX5_fold 43 = .ok (.iconst 0, 1) := by decide +kernel
theorem dX5_fold_44 : decode cX5_fold 44 = .ok (.invokevirtual 105, 3) := by decide +kernel
theorem dX5_fold_47 : decode cX5_fold 47 = .ok (.iinc 2 1, 3) := by decide +kernel
theorem dX5_fold_50 : decode cX5_fold 50 = .ok (.goto (-41), 3) := by decide +kernel
theorem dX5_fold_53 : decode cX5_fold 53 = .ok (.aload_n 0, 1) := by decide +kernel
theorem dX5_fold_54 : decode cX5_fold 54 = .ok (.iload_n 1, 1) := by decide +kernel
theorem dX5_fold_55 : decode cX5_fold 55 = .ok (.putfield 30, 3) := by decide +kernel
theorem dX5_fold_58 : decode cX5_fold 58 = .ok (.return_, 1) := by decide +kernel
theorem dX5_bits_0 : decode cX5_bits 0 = .ok (.lconst 0, 1) := by decide +kernel
theorem dX5_bits_1 : decode cX5_bits 1 = .ok (.lstore_n 1, 1) := by decide +kernel
theorem dX5_bits_2 : decode cX5_bits 2 = .ok (.iconst 0, 1) := by decide +kernel
theorem dX5_bits_3 : decode cX5_bits 3 = .ok (.istore_n 3, 1) := by decide +kernel
theorem dX5_bits_4 : decode cX5_bits 4 = .ok (.iload_n 3, 1) := by decide +kernel
theorem dX5_bits_5 : decode cX5_bits 5 = .ok (.aload_n 0, 1) := by decide +kernel
theorem dX5_bits_6 : decode cX5_bits 6 = .ok (.getfield 30, 3) := by decide +kernel
theorem dX5_bits_9 : decode cX5_bits 9 = .ok (.if_icmp .ge 27, 3) := by decide +kernel
theorem dX5_bits_12 : decode cX5_bits 12 = .ok (.lload_n 1, 1) := by decide +kernel
theorem dX5_bits_13 : decode cX5_bits 13 = .ok (.aload_n 0, 1) := by decide +kernel
theorem dX5_bits_14 : decode cX5_bits 14 = .ok (.iload_n 3, 1) := by decide +kernel
theorem dX5_bits_15 : decode cX5_bits 15 = .ok (.invokevirtual 88, 3) := by decide +kernel
theorem dX5_bits_18 : decode cX5_bits 18 = .ok (.ifCond .ne 7, 3) := by decide +kernel
theorem dX5_bits_21 : decode cX5_bits 21 = .ok (.lconst 0, 1) := by decide +kernel
theorem dX5_bits_22 : decode cX5_bits 22 = .ok (.goto 4, 3) := by decide +kernel
theorem dX5_bits_25 : decode cX5_bits 25 = .ok (.lconst 1, 1) := by decide +kernel
theorem dX5_bits_26 : decode cX5_bits 26 = .ok (.iload_n 3, 1) := by decide +kernel
theorem dX5_bits_27 : decode cX5_bits 27 = .ok (.lshl, 1) := by decide +kernel
theorem dX5_bits_28 : decode cX5_bits 28 = .ok (.lor, 1) := by decide +kernel
theorem dX5_bits_29 : decode cX5_bits 29 = .ok (.lstore_n 1, 1) := by decide +kernel
theorem dX5_bits_30 : decode cX5_bits 30 = .ok (.iinc 3 1, 3) := by decide +kernel
theorem dX5_bits_33 : decode cX5_bits 33 = .ok (.goto (-29), 3) := by decide +kernel
theorem dX5_bits_36 : decode cX5_bits 36 = .ok (.lload_n 1, 1) := by decide +kernel
theorem dX5_bits_37 : decode cX5_bits 37 = .ok (.lreturn, 1) := by decide +kernel
theorem dX5_guestAt_0 : decode cX5_guestAt 0 = .ok (.aload_n 0, 1) := by decide +kernel
theorem dX5_guestAt_1 : decode cX5_guestAt 1 = .ok (.iload_n 1, 1) := by decide +kernel
theorem dX5_guestAt_2 : decode cX5_guestAt 2 = .ok (.aload_n 0, 1) := by decide +kernel
theorem dX5_guestAt_3 : decode cX5_guestAt 3 = .ok (.getfield 36, 3) := by decide +kernel
theorem dX5_guestAt_6 : decode cX5_guestAt 6 = .ok (.imul, 1) := by decide +kernel
theorem dX5_guestAt_7 : decode cX5_guestAt 7 = .ok (.iload_n 2, 1) := by decide +kernel
theorem dX5_guestAt_8 : decode cX5_guestAt 8 = .ok (.iadd, 1) := by decide +kernel
theorem dX5_guestAt_9 : decode cX5_guestAt 9 = .ok (.invokevirtual 88, 3) := by decide +kernel
theorem dX5_guestAt_12 : decode cX5_guestAt 12 = .ok (.iconst 1, 1) := by decide +kernel
theorem dX5_guestAt_13 : decode cX5_guestAt 13 = .ok (.isub, 1) := by decide +kernel
theorem dX5_guestAt_14 : decode cX5_guestAt 14 = .ok (.ireturn, 1) := by decide +kernel
theorem dX5_setGuest_0 : decode cX5_setGuest 0 = .ok (.aload_n 0, 1) := by decide +kernel
theorem dX5_setGuest_1 : decode cX5_setGuest 1 = .ok (.iload_n 1, 1) := by decide +kernel
theorem dX5_setGuest_2 : decode cX5_setGuest 2 = .ok (.aload_n 0, 1) := by decide +kernel
theorem dX5_setGuest_3 : decode cX5_setGuest 3 = .ok (.getfield 36, 3) := by decide +kernel
theorem dX5_setGuest_6 : decode cX5_setGuest 6 = .ok (.imul, 1) := by decide +kernel
theorem dX5_setGuest_7 : decode cX5_setGuest 7 = .ok (.iload_n 2, 1) := by decide +kernel
theorem dX5_setGuest_8 : decode cX5_setGuest 8 = .ok (.iadd, 1) := by decide +kernel
theorem dX5_setGuest_9 : decode cX5_setGuest 9 = .ok (.iload_n 3, 1) := by decide +kernel
theorem dX5_setGuest_10 : decode cX5_setGuest 10 = .ok (.iconst 1, 1) := by decide +kernel
theorem dX5_setGuest_11 : decode cX5_setGuest 11 = .ok (.iadd, 1) := by decide +kernel
theorem dX5_setGuest_12 : decode cX5_setGuest 12 = .ok (.invokevirtual 105, 3) := by decide +kernel
theorem dX5_setGuest_15 : decode cX5_setGuest 15 = .ok (.return_, 1) := by decide +kernel
theorem dX5_freeSlot_0 : decode cX5_freeSlot 0 = .ok (.iconst 0, 1) := by decide +kernel
theorem dX5_freeSlot_1 : decode cX5_freeSlot 1 = .ok (.istore_n 2, 1) := by decide +kernel
theorem dX5_freeSlot_2 : decode cX5_freeSlot 2 = .ok (.iload_n 2, 1) := by decide +kernel
theorem dX5_freeSlot_3 : decode cX5_freeSlot 3 = .ok (.aload_n 0, 1) := by decide +kernel
theorem dX5_freeSlot_4 : decode cX5_freeSlot 4 = .ok (.getfield 36, 3) := by decide +kernel
theorem dX5_freeSlot_7 : decode cX5_freeSlot 7 = .ok (.if_icmp .ge 21, 3) := by decide +kernel
theorem dX5_freeSlot_10 : decode cX5_freeSlot 10 = .ok (.aload_n 0, 1) := by decide +kernel
theorem dX5_freeSlot_11 : decode cX5_freeSlot 11 = .ok (.iload_n 1, 1) := by decide +kernel
theorem dX5_freeSlot_12 : decode cX5_freeSlot 12 = .ok (.iload_n 2, 1) := by decide +kernel
theorem dX5_freeSlot_13 : decode cX5_freeSlot 13 = .ok (.invokevirtual 113, 3) := by decide +kernel
theorem dX5_freeSlot_16 : decode cX5_freeSlot 16 = .ok (.iconst (-1), 1) := by decide +kernel
theorem dX5_freeSlot_17 : decode cX5_freeSlot 17 = .ok (.if_icmp .ne 5, 3) := by decide +kernel
theorem dX5_freeSlot_20 : decode cX5_freeSlot 20 = .ok (.iload_n 2, 1) := by decide +kernel
theorem dX5_freeSlot_21 : decode cX5_freeSlot 21 = .ok (.ireturn, 1) := by decide +kernel
theorem dX5_freeSlot_22 : decode cX5_freeSlot 22 = .ok (.iinc 2 1, 3) := by decide +kernel
theorem dX5_freeSlot_25 : decode cX5_freeSlot 25 = .ok (.goto (-23), 3) := by decide +kernel
theorem dX5_freeSlot_28 : decode cX5_freeSlot 28 = .ok (.iconst (-1), 1) := by decide +kernel
theorem dX5_freeSlot_29 : decode cX5_freeSlot 29 = .ok (.ireturn, 1) := by decide +kernel
theorem dX5_guestsIn_0 : decode cX5_guestsIn 0 = .ok (.iconst 0, 1) := by decide +kernel
theorem dX5_guestsIn_1 : decode cX5_guestsIn 1 = .ok (.istore_n 2, 1) := by decide +kernel
theorem dX5_guestsIn_2 : decode cX5_guestsIn 2 = .ok (.iconst 0, 1) := by decide +kernel
theorem dX5_guestsIn_3 : decode cX5_guestsIn 3 = .ok (.istore_n 3, 1) := by decide +kernel
theorem dX5_guestsIn_4 : decode cX5_guestsIn 4 = .ok (.iload_n 3, 1) := by decide +kernel
theorem dX5_guestsIn_5 : decode cX5_guestsIn 5 = .ok (.aload_n 0, 1) := by decide +kernel
theorem dX5_guestsIn_6 : decode cX5_guestsIn 6 = .ok (.getfield 36, 3) := by decide +kernel
theorem dX5_guestsIn_9 : decode cX5_guestsIn 9 = .ok (.if_icmp .ge 22, 3) := by decide +kernel
theorem dX5_guestsIn_12 : decode cX5_guestsIn 12 = .ok (.aload_n 0, 1) := by decide +kernel
theorem dX5_guestsIn_13 : decode cX5_guestsIn 13 = .ok (.iload_n 1, 1) := by decide +kernel
theorem dX5_guestsIn_14 : decode cX5_guestsIn 14 = .ok (.iload_n 3, 1) := by decide +kernel
theorem dX5_guestsIn_15 : decode cX5_guestsIn 15 = .ok (.invokevirtual 113, 3) := by decide +kernel
theorem dX5_guestsIn_18 : decode cX5_guestsIn 18 = .ok (.iconst (-1), 1) := by decide +kernel
theorem dX5_guestsIn_19 : decode cX5_guestsIn 19 = .ok (.if_icmp .eq 6, 3) := by decide +kernel
theorem dX5_guestsIn_22 : decode cX5_guestsIn 22 = .ok (.iinc 2 1, 3) := by decide +kernel
theorem dX5_guestsIn_25 : decode cX5_guestsIn 25 = .ok (.iinc 3 1, 3) := by decide +kernel
theorem dX5_guestsIn_28 : decode cX5_guestsIn 28 = .ok (.goto (-24), 3) := by decide +kernel
theorem dX5_guestsIn_31 : decode cX5_guestsIn 31 = .ok (.iload_n 2, 1) := by decide +kernel
theorem dX5_guestsIn_32 : decode cX5_guestsIn 32 = .ok (.ireturn, 1) := by decide +kernel
theorem dX5_hasGuestLike_0 : decode cX5_hasGuestLike 0 = .ok (.iconst 0, 1) := by decide +kernel
theorem dX5_hasGuestLike_1 : decode cX5_hasGuestLike 1 = .ok (.istore 4, 2) := by decide +kernel
theorem dX5_hasGuestLike_3 : decode cX5_hasGuestLike 3 = .ok (.iload 4, 2) := by decide +kernel
theorem dX5_hasGuestLike_5 : decode cX5_hasGuestLike 5 = .ok (.aload_n 0, 1) := by decide +kernel
theorem dX5_hasGuestLike_6 : decode cX5_hasGuestLike 6 = .ok (.getfield 36, 3) := by decide +kernel
theorem dX5_hasGuestLike_9 : decode cX5_hasGuestLike 9 = .ok (.if_icmp .ge 40, 3) := by decide +kernel
theorem dX5_hasGuestLike_12 : decode cX5_hasGuestLike 12 = .ok (.aload_n 0, 1) := by decide +kernel
theorem dX5_hasGuestLike_13 : decode cX5_hasGuestLike 13 = .ok (.iload_n 3, 1) := by decide +kernel
theorem dX5_hasGuestLike_14 : decode cX5_hasGuestLike 14 = .ok (.iload 4, 2) := by decide +kernel
theorem dX5_hasGuestLike_16 : decode cX5_hasGuestLike 16 = .ok (.invokevirtual 113, 3) := by decide +kernel
theorem dX5_hasGuestLike_19 : decode cX5_hasGuestLike 19 = .ok (.istore 5, 2) := by decide +kernel
theorem dX5_hasGuestLike_21 : decode cX5_hasGuestLike 21 = .ok (.iload 5, 2) := by decide +kernel
theorem dX5_hasGuestLike_23 : decode cX5_hasGuestLike 23 = .ok (.iconst (-1), 1) := by decide +kernel
theorem dX5_hasGuestLike_24 : decode cX5_hasGuestLike 24 = .ok (.if_icmp .eq 19, 3) := by decide +kernel
theorem dX5_hasGuestLike_27 : decode cX5_hasGuestLike 27 = .ok (.aload_n 1, 1) := by decide +kernel
theorem dX5_hasGuestLike_28 : decode cX5_hasGuestLike 28 = .ok (.iload 5, 2) := by decide +kernel
theorem dX5_hasGuestLike_30 : decode cX5_hasGuestLike 30 = .ok (.invokevirtual 78, 3) := by decide +kernel
theorem dX5_hasGuestLike_33 : decode cX5_hasGuestLike 33 = .ok (.aload_n 1, 1) := by decide +kernel
theorem dX5_hasGuestLike_34 : decode cX5_hasGuestLike 34 = .ok (.iload_n 2, 1) := by decide +kernel
theorem dX5_hasGuestLike_35 : decode cX5_hasGuestLike 35 = .ok (.invokevirtual 78, 3) := by decide +kernel
theorem dX5_hasGuestLike_38 : decode cX5_hasGuestLike 38 = .ok (.if_icmp .ne 5, 3) := by decide +kernel
theorem dX5_hasGuestLike_41 : decode cX5_hasGuestLike 41 = .ok (.iconst 1, 1) := by decide +kernel
theorem dX5_hasGuestLike_42 : decode cX5_hasGuestLike 42 = .ok (.ireturn, 1) := by decide +kernel
theorem dX5_hasGuestLike_43 : decode cX5_hasGuestLike 43 = .ok (.iinc 4 1, 3) := by decide +kernel
theorem dX5_hasGuestLike_46 : decode cX5_hasGuestLike 46 = .ok (.goto (-43), 3) := by decide +kernel
theorem dX5_hasGuestLike_49 : decode cX5_hasGuestLike 49 = .ok (.iconst 0, 1) := by decide +kernel
theorem dX5_hasGuestLike_50 : decode cX5_hasGuestLike 50 = .ok (.ireturn, 1) := by decide +kernel
theorem dX5_freeGuest_0 : decode cX5_freeGuest 0 = .ok (.iconst 0, 1) := by decide +kernel
theorem dX5_freeGuest_1 : decode cX5_freeGuest 1 = .ok (.istore_n 2, 1) := by decide +kernel
theorem dX5_freeGuest_2 : decode cX5_freeGuest 2 = .ok (.iload_n 2, 1) := by decide +kernel
theorem dX5_freeGuest_3 : decode cX5_freeGuest 3 = .ok (.aload_n 0, 1) := by decide +kernel
theorem dX5_freeGuest_4 : decode cX5_freeGuest 4 = .ok (.getfield 30, 3) := by decide +kernel
theorem dX5_freeGuest_7 : decode cX5_freeGuest 7 = .ok (.aload_n 0, 1) := by decide +kernel
theorem dX5_freeGuest_8 : decode cX5_freeGuest 8 = .ok (.getfield 36, 3) := by decide +kernel
theorem dX5_freeGuest_11 : decode cX5_freeGuest 11 = .ok (.imul, 1) := by decide +kernel
theorem dX5_freeGuest_12 : decode cX5_freeGuest 12 = .ok (.if_icmp .ge 26, 3) := by decide +kernel
theorem dX5_freeGuest_15 : decode cX5_freeGuest 15 = .ok (.aload_n 0, 1) := by decide +kernel
theorem dX5_freeGuest_16 : decode cX5_freeGuest 16 = .ok (.iload_n 2, 1) := by decide +kernel
theorem dX5_freeGuest_17 : decode cX5_freeGuest 17 = .ok (.invokevirtual 88, 3) := by decide +kernel
theorem dX5_freeGuest_20 : decode cX5_freeGuest 20 = .ok (.iload_n 1, 1) := by decide +kernel
theorem dX5_freeGuest_21 : decode cX5_freeGuest 21 = .ok (.iconst 1, 1) := by decide +kernel
theorem dX5_freeGuest_22 : decode cX5_freeGuest 22 = .ok (.iadd, 1) := by decide +kernel
theorem dX5_freeGuest_23 : decode cX5_freeGuest 23 = .ok (.if_icmp .ne 9, 3) := by decide +kernel
theorem dX5_freeGuest_26 : decode cX5_freeGuest 26 = .ok (.aload_n 0, 1) := by decide +kernel
theorem dX5_freeGuest_27 : decode cX5_freeGuest 27 = .ok (.iload_n 2, 1) := by decide +kernel
theorem dX5_freeGuest_28 : decode cX5_freeGuest 28 = .ok (.iconst 0, 1) := by decide +kernel
theorem dX5_freeGuest_29 : decode cX5_freeGuest 29 = .ok (.invokevirtual 105, 3) := by decide +kernel
theorem dX5_freeGuest_32 : decode cX5_freeGuest 32 = .ok (.iinc 2 1, 3) := by decide +kernel
theorem dX5_freeGuest_35 : decode cX5_freeGuest 35 = .ok (.goto (-33), 3) := by decide +kernel
theorem dX5_freeGuest_38 : decode cX5_freeGuest 38 = .ok (.return_, 1) := by decide +kernel
theorem dX5_copyFrom_0 : decode cX5_copyFrom 0 = .ok (.aload_n 0, 1) := by decide +kernel
theorem dX5_copyFrom_1 : decode cX5_copyFrom 1 = .ok (.aload_n 1, 1) := by decide +kernel
theorem dX5_copyFrom_2 : decode cX5_copyFrom 2 = .ok (.getfield 22, 3) := by decide +kernel
theorem dX5_copyFrom_5 : decode cX5_copyFrom 5 = .ok (.putfield 22, 3) := by decide +kernel
theorem dX5_copyFrom_8 : decode cX5_copyFrom 8 = .ok (.aload_n 0, 1) := by decide +kernel
theorem dX5_copyFrom_9 : decode cX5_copyFrom 9 = .ok (.aload_n 1, 1) := by decide +kernel
theorem dX5_copyFrom_10 : decode cX5_copyFrom 10 = .ok (.getfield 26, 3) := by decide +kernel
theorem dX5_copyFrom_13 : decode cX5_copyFrom 13 = .ok (.putfield 26, 3) := by decide +kernel
theorem dX5_copyFrom_16 : decode cX5_copyFrom 16 = .ok (.aload_n 0, 1) := by decide +kernel
theorem dX5_copyFrom_17 : decode cX5_copyFrom 17 = .ok (.aload_n 1, 1) := by decide +kernel
theorem dX5_copyFrom_18 : decode cX5_copyFrom 18 = .ok (.getfield 30, 3) := by decide +kernel
theorem dX5_copyFrom_21 : decode cX5_copyFrom 21 = .ok (.putfield 30, 3) := by decide +kernel
theorem dX5_copyFrom_24 : decode cX5_copyFrom 24 = .ok (.aload_n 0, 1) := by decide +kernel
theorem dX5_copyFrom_25 : decode cX5_copyFrom 25 = .ok (.aload_n 1, 1) := by decide +kernel
theorem dX5_copyFrom_26 : decode cX5_copyFrom 26 = .ok (.getfield 33, 3) := by decide +kernel
theorem dX5_copyFrom_29 : decode cX5_copyFrom 29 = .ok (.putfield 33, 3) := by decide +kernel
theorem dX5_copyFrom_32 : decode cX5_copyFrom 32 = .ok (.aload_n 0, 1) := by decide +kernel
theorem dX5_copyFrom_33 : decode cX5_copyFrom 33 = .ok (.aload_n 1, 1) := by decide +kernel
theorem dX5_copyFrom_34 : decode cX5_copyFrom 34 = .ok (.getfield 36, 3) := by decide +kernel
theorem dX5_copyFrom_37 : decode cX5_copyFrom 37 = .ok (.putfield 36, 3) := by decide +kernel
theorem dX5_copyFrom_40 : decode cX5_copyFrom 40 = .ok (.aload_n 0, 1) := by decide +kernel
theorem dX5_copyFrom_41 : decode cX5_copyFrom 41 = .ok (.aload_n 1, 1) := by decide +kernel
theorem dX5_copyFrom_42 : decode cX5_copyFrom 42 = .ok (.getfield 39, 3) := by decide +kernel
theorem dX5_copyFrom_45 : decode cX5_copyFrom 45 = .ok (.putfield 39, 3) := by decide +kernel
theorem dX5_copyFrom_48 : decode cX5_copyFrom 48 = .ok (.aload_n 0, 1) := by decide +kernel
theorem dX5_copyFrom_49 : decode cX5_copyFrom 49 = .ok (.aload_n 1, 1) := by decide +kernel
theorem dX5_copyFrom_50 : decode cX5_copyFrom 50 = .ok (.getfield 42, 3) := by decide +kernel
theorem dX5_copyFrom_53 : decode cX5_copyFrom 53 = .ok (.putfield 42, 3) := by decide +kernel
theorem dX5_copyFrom_56 : decode cX5_copyFrom 56 = .ok (.aload_n 0, 1) := by decide +kernel
theorem dX5_copyFrom_57 : decode cX5_copyFrom 57 = .ok (.aload_n 1, 1) := by decide +kernel
theorem dX5_copyFrom_58 : decode cX5_copyFrom 58 = .ok (.getfield 45, 3) := by decide +kernel
theorem dX5_copyFrom_61 : decode cX5_copyFrom 61 = .ok (.putfield 45, 3) := by decide +kernel
theorem dX5_copyFrom_64 : decode cX5_copyFrom 64 = .ok (.aload_n 0, 1) := by decide +kernel
theorem dX5_copyFrom_65 : decode cX5_copyFrom 65 = .ok (.getfield 12, 3) := by decide +kernel
theorem dX5_copyFrom_68 : decode cX5_copyFrom 68 = .ok (.aload_n 1, 1) := by decide +kernel
theorem dX5_copyFrom_69 : decode cX5_copyFrom 69 = .ok (.getfield 12, 3) := by decide +kernel
theorem dX5_copyFrom_72 : decode cX5_copyFrom 72 = .ok (.invokevirtual 116, 3) := by decide +kernel
theorem dX5_copyFrom_75 : decode cX5_copyFrom 75 = .ok (.aload_n 1, 1) := by decide +kernel
theorem dX5_copyFrom_76 : decode cX5_copyFrom 76 = .ok (.getfield 18, 3) := by decide +kernel
theorem dX5_copyFrom_79 : decode cX5_copyFrom 79 = .ok (.iconst 0, 1) := by decide +kernel
theorem dX5_copyFrom_80 : decode cX5_copyFrom 80 = .ok (.aload_n 0, 1) := by decide +kernel
theorem dX5_copyFrom_81 : decode cX5_copyFrom 81 = .ok (.getfield 18, 3) := by decide +kernel
theorem dX5_copyFrom_84 : decode cX5_copyFrom 84 = .ok (.iconst 0, 1) := by decide +kernel
theorem dX5_copyFrom_85 : decode cX5_copyFrom 85 = .ok (.aload_n 0, 1) := by decide +kernel
theorem dX5_copyFrom_86 : decode cX5_copyFrom 86 = .ok (.getfield 18, 3) := by decide +kernel
theorem dX5_copyFrom_89 : decode cX5_copyFrom 89 = .ok (.arraylength, 1) := by decide +kernel
theorem dX5_copyFrom_90 : decode cX5_copyFrom 90 = .ok (.invokestatic 119, 3) := by decide +kernel
theorem dX5_copyFrom_93 : decode cX5_copyFrom 93 = .ok (.return_, 1) := by decide +kernel
theorem dX6_init_0 : decode cX6_init 0 = .ok (.aload_n 0, 1) := by decide +kernel
theorem dX6_init_1 : decode cX6_init 1 = .ok (.invokespecial 3, 3) := by decide +kernel
theorem dX6_init_4 : decode cX6_init 4 = .ok (.aload_n 0, 1) := by decide +kernel
theorem dX6_init_5 : decode cX6_init 5 = .ok (.sipush 600, 3) := by decide +kernel
theorem dX6_init_8 : decode cX6_init 8 = .ok (.newarray .int, 2) := by decide +kernel
theorem dX6_init_10 : decode cX6_init 10 = .ok (.putfield 9, 3) := by decide +kernel
theorem dX6_init_13 : decode cX6_init 13 = .ok (.aload_n 0, 1) := by decide +kernel
theorem dX6_init_14 : decode cX6_init 14 = .ok (.bipush 6, 2) := by decide +kernel
theorem dX6_init_16 : decode cX6_init 16 = .ok (.newarray .int, 2) := by decide +kernel
theorem dX6_init_18 : decode cX6_init 18 = .ok (.putfield 15, 3) := by decide +kernel
theorem dX6_init_21 : decode cX6_init 21 = .ok (.aload_n 0, 1) := by decide +kernel
theorem dX6_init_22 : decode cX6_init 22 = .ok (.bipush 6, 2) := by decide +kernel
theorem dX6_init_24 : decode cX6_init 24 = .ok (.newarray .int, 2) := by decide +kernel
theorem dX6_init_26 : decode cX6_init 26 = .ok (.putfield 18, 3) := by decide +kernel
theorem dX6_init_29 : decode cX6_init 29 = .ok (.aload_n 0, 1) := by decide +kernel
theorem dX6_init_30 : decode cX6_init 30 = .ok (.sipush 256, 3) := by decide +kernel
theorem dX6_init_33 : decode cX6_init 33 = .ok (.newarray .int, 2) := by decide +kernel
theorem dX6_init_35 : decode cX6_init 35 = .ok (.putfield 21, 3) := by decide +kernel
theorem dX6_init_38 : decode cX6_init 38 = .ok (.aload_n 0, 1) := by decide +kernel
theorem dX6_init_39 : decode cX6_init 39 = .ok (.sipush 1536, 3) := by decide +kernel
theorem dX6_init_42 : decode cX6_init 42 = .ok (.newarray .int, 2) := by decide +kernel
theorem dX6_init_44 : decode cX6_init 44 = .ok (.putfield 24, 3) := by decide +kernel
theorem dX6_init_47 : decode cX6_init 47 = .ok (.aload_n 0, 1) := by decide +kernel
theorem dX6_init_48 : decode cX6_init 48 = .ok (.bipush 16, 2) := by decide +kernel
theorem dX6_init_50 : decode cX6_init 50 = .ok (.newarray .int, 2) := by decide +kernel
theorem dX6_init_52 : decode cX6_init 52 = .ok (.putfield 27, 3) := by decide +kernel
theorem dX6_init_55 : decode cX6_init 55 = .ok (.return_, 1) := by decide +kernel
theorem dX6_clear_0 : decode cX6_clear 0 = .ok (.aload_n 0, 1) := by decide +kernel
theorem dX6_clear_1 : decode cX6_clear 1 = .ok (.iconst 0, 1) := by decide +kernel
theorem dX6_clear_2 : decode cX6_clear 2 = .ok (.putfield 30, 3) := by decide +kernel
theorem dX6_clear_5 : decode cX6_clear 5 = .ok (.aload_n 0, 1) := by decide +kernel
theorem dX6_clear_6 : decode cX6_clear 6 = .ok (.bipush 64, 2) := by decide +kernel
theorem dX6_clear_8 : decode cX6_clear 8 = .ok (.putfield 34, 3) := by decide +kernel
theorem dX6_clear_11 : decode cX6_clear 11 = .ok (.aload_n 0, 1) := by decide +kernel
theorem dX6_clear_12 : decode cX6_clear 12 = .ok (.bipush 16, 2) := by decide +kernel
theorem dX6_clear_14 : decode cX6_clear 14 = .ok (.putfield 37, 3) := by decide +kernel
theorem dX6_clear_17 : decode cX6_clear 17 = .ok (.aload_n 0, 1) := by decide +kernel
theorem dX6_clear_18 : decode cX6_clear 18 = .ok (.iconst 0, 1) := by decide +kernel
theorem dX6_clear_19 : decode cX6_clear 19 = .ok (.putfield 40, 3) := by decide +kernel
theorem dX6_clear_22 : decode cX6_clear 22 = .ok (.aload_n 0, 1) := by decide +kernel
theorem dX6_clear_23 : decode cX6_clear 23 = .ok (.iconst 0, 1) := by decide +kernel
theorem dX6_clear_24 : decode cX6_clear 24 = .ok (.putfield 43, 3) := by decide +kernel
theorem dX6_clear_27 : decode cX6_clear 27 = .ok (.aload_n 0, 1) := by decide +kernel
theorem dX6_clear_28 : decode cX6_clear 28 = .ok (.iconst 0, 1) := by decide +kernel
theorem dX6_clear_29 : decode cX6_clear 29 = .ok (.putfield 46, 3) := by decide +kernel
theorem dX6_clear_32 : decode cX6_clear 32 = .ok (.aload_n 0, 1) := by decide +kernel
theorem dX6_clear_33 : decode cX6_clear 33 = .ok (.iconst 0, 1) := by decide +kernel
theorem dX6_clear_34 : decode cX6_clear 34 = .ok (.putfield 49, 3) := by decide +kernel
theorem dX6_clear_37 : decode cX6_clear 37 = .ok (.aload_n 0, 1) := by decide +kernel
theorem dX6_clear_38 : decode cX6_clear 38 = .ok (.iconst 0, 1) := by decide +kernel
theorem dX6_clear_39 : decode cX6_clear 39 = .ok (.putfield 52, 3) := by decide +kernel
theorem dX6_clear_42 : decode cX6_clear 42 = .ok (.return_, 1) := by decide +kernel
theorem dX6_emit_0 : decode cX6_emit 0 = .ok (.aload_n 0, 1) := by decide +kernel
theorem dX6_emit_1 : decode cX6_emit 1 = .ok (.getfield 43, 3) := by decide +kernel
theorem dX6_emit_4 : decode cX6_emit 4 = .ok (.aload_n 0, 1) := by decide +kernel
theorem dX6_emit_5 : decode cX6_emit 5 = .ok (.getfield 9, 3) := by decide +kernel
theorem dX6_emit_8 : decode cX6_emit 8 = .ok (.arraylength, 1) := by decide +kernel
theorem dX6_emit_9 : decode cX6_emit 9 = .ok (.if_icmp .ge 23, 3) := by decide +kernel
theorem dX6_emit_12 : decode cX6_emit 12 = .ok (.aload_n 0, 1) := by decide +kernel
theorem dX6_emit_13 : decode cX6_emit 13 = .ok (.getfield 9, 3) := by decide +kernel
theorem dX6_emit_16 : decode cX6_emit 16 = .ok (.aload_n 0, 1) := by decide +kernel
theorem dX6_emit_17 : decode cX6_emit 17 = .ok (.getfield 43, 3) := by decide +kernel
theorem dX6_emit_20 : decode cX6_emit 20 = .ok (.iload_n 1, 1) := by decide +kernel
theorem dX6_emit_21 : decode cX6_emit 21 = .ok (.iastore, 1) := by decide +kernel
theorem dX6_emit_22 : decode cX6_emit 22 = .ok (.aload_n 0, 1) := by decide +kernel
theorem dX6_emit_23 : decode cX6_emit 23 = .ok (.dup, 1) := by decide +kernel
theorem dX6_emit_24 : decode cX6_emit 24 = .ok (.getfield 43, 3) := by decide +kernel
theorem dX6_emit_27 : decode cX6_emit 27 = .ok (.iconst 1, 1) := by decide +kernel
theorem dX6_emit_28 : decode cX6_emit 28 = .ok (.iadd, 1) := by decide +kernel
theorem dX6_emit_29 : decode cX6_emit 29 = .ok (.putfield 43, 3) := by decide +kernel
theorem dX6_emit_32 : decode cX6_emit 32 = .ok (.return_, 1) := by decide +kernel
theorem dX6_emitted_0 : decode cX6_emitted 0 = .ok (.aload_n 0, 1) := by decide +kernel
theorem dX6_emitted_1 : decode cX6_emitted 1 = .ok (.getfield 43, 3) := by decide +kernel
theorem dX6_emitted_4 : decode cX6_emitted 4 = .ok (.ireturn, 1) := by decide +kernel
theorem dX6_addMark_0 : decode cX6_addMark 0 = .ok (.aload_n 0, 1) := by decide +kernel
theorem dX6_addMark_1 : decode cX6_addMark 1 = .ok (.getfield 40, 3) := by decide +kernel
theorem dX6_addMark_4 : decode cX6_addMark 4 = .ok (.bipush 6, 2) := by decide +kernel
theorem dX6_addMark_6 : decode cX6_addMark 6 = .ok (.if_icmp .lt 4, 3) := by decide +kernel
theorem dX6_addMark_9 : decode cX6_addMark 9 = .ok (.return_, 1) := by decide +kernel
theorem dX6_addMark_10 : decode cX6_addMark 10 = .ok (.aload_n 0, 1) := by decide +kernel
theorem dX6_addMark_11 : decode cX6_addMark 11 = .ok (.getfield 15, 3) := by decide +kernel
theorem dX6_addMark_14 : decode cX6_addMark 14 = .ok (.aload_n 0, 1) := by decide +kernel
theorem dX6_addMark_15 : decode cX6_addMark 15 = .ok (.getfield 40, 3) := by decide +kernel
theorem dX6_addMark_18 : decode cX6_addMark 18 = .ok (.iload_n 1, 1) := by decide +kernel
theorem dX6_addMark_19 : decode cX6_addMark 19 = .ok (.iastore, 1) := by decide +kernel
theorem dX6_addMark_20 : decode cX6_addMark 20 = .ok (.aload_n 0, 1) := by decide +kernel
theorem dX6_addMark_21 : decode cX6_addMark 21 = .ok (.getfield 18, 3) := by decide +kernel
theorem dX6_addMark_24 : decode cX6_addMark 24 = .ok (.aload_n 0, 1) := by decide +kernel
theorem dX6_addMark_25 : decode cX6_addMark 25 = .ok (.getfield 40, 3) := by decide +kernel
theorem dX6_addMark_28 : decode cX6_addMark 28 = .ok (.aload_n 0, 1) := by decide +kernel
theorem dX6_addMark_29 : decode cX6_addMark 29 = .ok (.getfield 43, 3) := by decide +kernel
theorem dX6_addMark_32 : decode cX6_addMark 32 = .ok (.iastore, 1) := by decide +kernel
theorem dX6_addMark_33 : decode cX6_addMark 33 = .ok (.iload_n 1, 1) := by decide +kernel
theorem dX6_addMark_34 : decode cX6_addMark 34 = .ok (.iconst 0, 1) := by decide +kernel
theorem dX6_addMark_35 : decode cX6_addMark 35 = .ok (.invokestatic 55, 3) := by decide +kernel
theorem dX6_addMark_38 : decode cX6_addMark 38 = .ok (.istore_n 2, 1) := by decide +kernel
theorem dX6_addMark_39 : decode cX6_addMark 39 = .ok (.iload_n 2, 1) := by decide +kernel
theorem dX6_addMark_40 : decode cX6_addMark 40 = .ok (.aload_n 0, 1) := by decide +kernel
theorem dX6_addMark_41 : decode cX6_addMark 41 = .ok (.getfield 43, 3) := by decide +kernel
theorem dX6_addMark_44 : decode cX6_addMark 44 = .ok (.if_icmp .ge 39, 3) := by decide +kernel
theorem dX6_addMark_47 : decode cX6_addMark 47 = .ok (.aload_n 0, 1) := by decide +kernel
theorem dX6_addMark_48 : decode cX6_addMark 48 = .ok (.dup, 1) := by decide +kernel
theorem dX6_addMark_49 : decode cX6_addMark 49 = .ok (.getfield 52, 3) := by decide +kernel
theorem dX6_addMark_52 : decode cX6_addMark 52 = .ok (.aload_n 0, 1) := by decide +kernel
theorem dX6_addMark_53 : decode cX6_addMark 53 = .ok (.getfield 9, 3) := by decide +kernel
theorem dX6_addMark_56 : decode cX6_addMark 56 = .ok (.iload_n 2, 1) := by decide +kernel
theorem dX6_addMark_57 : decode cX6_addMark 57 = .ok (.iaload, 1) := by decide +kernel
theorem dX6_addMark_58 : decode cX6_addMark 58 = .ok (.bipush (-2), 2) := by decide +kernel
theorem dX6_addMark_60 : decode cX6_addMark 60 = .ok (.if_icmp .ne 12, 3) := by decide +kernel
theorem dX6_addMark_63 : decode cX6_addMark 63 = .ok (.iconst 1, 1) := by decide +kernel
theorem dX6_addMark_64 : decode cX6_addMark 64 = .ok (.aload_n 0, 1) := by decide +kernel
theorem dX6_addMark_65 : decode cX6_addMark 65 = .ok (.getfield 40, 3) := by decide +kernel
theorem dX6_addMark_68 : decode cX6_addMark 68 = .ok (.ishl, 1) := by decide +kernel
theorem dX6_addMark_69 : decode cX6_addMark 69 = .ok (.goto 4, 3) := by decide +kernel
theorem dX6_addMark_72 : decode cX6_addMark 72 = .ok (.iconst 0, 1) := by decide +kernel
theorem dX6_addMark_73 : decode cX6_addMark 73 = .ok (.ior, 1) := by decide +kernel
theorem dX6_addMark_74 : decode cX6_addMark 74 = .ok (.putfield 52, 3) := by decide +kernel
theorem dX6_addMark_77 : decode cX6_addMark 77 = .ok (.iinc 2 1, 3) := by decide +kernel
theorem dX6_addMark_80 : decode cX6_addMark 80 = .ok (.goto (-41), 3) := by decide +kernel
theorem dX6_addMark_83 : decode cX6_addMark 83 = .ok (.aload_n 0, 1) := by decide +kernel
theorem dX6_addMark_84 : decode cX6_addMark 84 = .ok (.dup, 1) := by decide +kernel
theorem dX6_addMark_85 : decode cX6_addMark 85 = .ok (.getfield 40, 3) := by decide +kernel
theorem dX6_addMark_88 : decode cX6_addMark 88 = .ok (.iconst 1, 1) := by decide +kernel
theorem dX6_addMark_89 : decode cX6_addMark 89 = .ok (.iadd, 1) := by decide +kernel
theorem dX6_addMark_90 : decode cX6_addMark 90 = .ok (.putfield 40, 3) := by decide +kernel
theorem dX6_addMark_93 : decode cX6_addMark 93 = .ok (.return_, 1) := by decide +kernel
theorem dX6_setTag_0 : decode cX6_setTag 0 = .ok (.aload_n 0, 1) := by decide +kernel
theorem dX6_setTag_1 : decode cX6_setTag 1 = .ok (.iload_n 1, 1) := by decide +kernel
theorem dX6_setTag_2 : decode cX6_setTag 2 = .ok (.putfield 46, 3) := by decide +kernel
theorem dX6_setTag_5 : decode cX6_setTag 5 = .ok (.aload_n 0, 1) := by decide +kernel
theorem dX6_setTag_6 : decode cX6_setTag 6 = .ok (.aload_n 0, 1) := by decide +kernel
theorem dX6_setTag_7 : decode cX6_setTag 7 = .ok (.getfield 43, 3) := by decide +kernel
theorem dX6_setTag_10 : decode cX6_setTag 10 = .ok (.putfield 49, 3) := by decide +kernel
theorem dX6_setTag_13 : decode cX6_setTag 13 = .ok (.return_, 1) := by decide +kernel
theorem dX6_fillTables_0 : decode cX6_fillTables 0 = .ok (.iconst 0, 1) := by decide +kernel
theorem dX6_fillTables_1 : decode cX6_fillTables 1 = .ok (.istore_n 1, 1) := by decide +kernel
theorem dX6_fillTables_2 : decode cX6_fillTables 2 = .ok (.iload_n 1, 1) := by decide +kernel
theorem dX6_fillTables_3 : decode cX6_fillTables 3 = .ok (.aload_n 0, 1) := by decide +kernel
theorem dX6_fillTables_4 : decode cX6_fillTables 4 = .ok (.getfield 34, 3) := by decide +kernel
theorem dX6_fillTables_7 : decode cX6_fillTables 7 = .ok (.if_icmp .ge 126, 3) := by decide +kernel
theorem dX6_fillTables_10 : decode cX6_fillTables 10 = .ok (.iload_n 1, 1) := by decide +kernel
theorem dX6_fillTables_11 : decode cX6_fillTables 11 = .ok (.sipush 256, 3) := by decide +kernel
theorem dX6_fillTables_14 : decode cX6_fillTables 14 = .ok (.if_icmp .ge 119, 3) := by decide +kernel
theorem dX6_fillTables_17 : decode cX6_fillTables 17 = .ok (.aload_n 0, 1) := by decide +kernel
theorem dX6_fillTables_18 : decode cX6_fillTables 18 = .ok (.getfield 46, 3) := by decide +kernel
theorem dX6_fillTables_21 : decode cX6_fillTables 21 = .ok (.aload_n 0, 1) := by decide +kernel
theorem dX6_fillTables_22 : decode cX6_fillTables 22 = .ok (.getfield 49, 3) := by decide +kernel
theorem dX6_fillTables_25 : decode cX6_fillTables 25 = .ok (.if_icmp .ne 7, 3) := by decide +kernel
theorem dX6_fillTables_28 : decode cX6_fillTables 28 = .ok (.iload_n 1, 1) := by decide +kernel
theorem dX6_fillTables_29 : decode cX6_fillTables 29 = .ok (.goto 20, 3) := by decide +kernel
theorem dX6_fillTables_32 : decode cX6_fillTables 32 = .ok (.aload_n 0, 1) := by decide +kernel
theorem dX6_fillTables_33 : decode cX6_fillTables 33 = .ok (.aload_n 0, 1) := by decide +kernel
theorem dX6_fillTables_34 : decode cX6_fillTables 34 = .ok (.getfield 46, 3) := by decide +kernel
theorem dX6_fillTables_37 : decode cX6_fillTables 37 = .ok (.aload_n 0, 1) := by decide +kernel
theorem dX6_fillTables_38 : decode cX6_fillTables 38 = .ok (.getfield 49, 3) := by decide +kernel
theorem dX6_fillTables_41 : decode cX6_fillTables 41 = .ok (.iload_n 1, 1) := by decide +kernel
theorem dX6_fillTables_42 : decode cX6_fillTables 42 = .ok (.aload_n 0, 1) := by decide +kernel
theorem dX6_fillTables_43 : decode cX6_fillTables 43 = .ok (.getfield 37, 3) := by decide +kernel
theorem dX6_fillTables_46 : decode cX6_fillTables 46 = .ok (.invokevirtual 61, 3) := by decide +kernel
theorem dX6_fillTables_49 : decode cX6_fillTables 49 = .ok (.istore_n 2, 1) := by decide +kernel
theorem dX6_fillTables_50 : decode cX6_fillTables 50 = .ok (.aload_n 0, 1) := by decide +kernel
theorem dX6_fillTables_51 : decode cX6_fillTables 51 = .ok (.getfield 21, 3) := by decide +kernel
theorem dX6_fillTables_54 : decode cX6_fillTables 54 = .ok (.iload_n 1, 1) := by decide +kernel
theorem dX6_fillTables_55 : decode cX6_fillTables 55 = .ok (.iload_n 2, 1) := by decide +kernel
theorem dX6_fillTables_56 : decode cX6_fillTables 56 = .ok (.aload_n 0, 1) := by decide +kernel
theorem dX6_fillTables_57 : decode cX6_fillTables 57 = .ok (.getfield 37, 3) := by decide +kernel
theorem dX6_fillTables_60 : decode cX6_fillTables 60 = .ok (.invokestatic 65, 3) := by decide +kernel
theorem dX6_fillTables_63 : decode cX6_fillTables 63 = .ok (.iastore, 1) := by decide +kernel
theorem dX6_fillTables_64 : decode cX6_fillTables 64 = .ok (.iconst 0, 1) := by decide +kernel
theorem dX6_fillTables_65 : decode cX6_fillTables 65 = .ok (.istore_n 3, 1) := by decide +kernel
theorem dX6_fillTables_66 : decode cX6_fillTables 66 = .ok (.iload_n 3, 1) := by decide +kernel
theorem dX6_fillTables_67 : decode cX6_fillTables 67 = .ok (.aload_n 0, 1) := by decide +kernel
theorem dX6_fillTables_68 : decode cX6_fillTables 68 = .ok (.getfield 40, 3) := by decide +kernel
theorem dX6_fillTables_71 : decode cX6_fillTables 71 = .ok (.if_icmp .ge 56, 3) := by decide +kernel
theorem dX6_fillTables_74 : decode cX6_fillTables 74 = .ok (.iload_n 3, 1) := by decide +kernel
theorem dX6_fillTables_75 : decode cX6_fillTables 75 = .ok (.bipush 6, 2) := by decide +kernel
theorem dX6_fillTables_77 : decode cX6_fillTables 77 = .ok (.if_icmp .ge 50, 3) := by decide +kernel
theorem dX6_fillTables_80 : decode cX6_fillTables 80 = .ok (.aload_n 0, 1) := by decide +kernel
theorem dX6_fillTables_81 : decode cX6_fillTables 81 = .ok (.getfield 52, 3) := by decide +kernel
theorem dX6_fillTables_84 : decode cX6_fillTables 84 = .ok (.iload_n 3, 1) := by decide +kernel
theorem dX6_fillTables_85 : decode cX6_fillTables 85 = .ok (.ishr, 1) := by decide +kernel
theorem dX6_fillTables_86 : decode cX6_fillTables 86 = .ok (.iconst 1, 1) := by decide +kernel
theorem dX6_fillTables_87 : decode cX6_fillTables 87 = .ok (.iand, 1) := by decide +kernel
theorem dX6_fillTables_88 : decode cX6_fillTables 88 = .ok (.ifCond .ne 33, 3) := by decide +kernel
theorem dX6_fillTables_91 : decode cX6_fillTables 91 = .ok (.aload_n 0, 1) := by decide +kernel
theorem dX6_fillTables_92 : decode cX6_fillTables 92 = .ok (.getfield 24, 3) := by decide +kernel
theorem dX6_fillTables_95 : decode cX6_fillTables 95 = .ok (.iload_n 3, 1) := by decide +kernel
theorem dX6_fillTables_96 : decode cX6_fillTables 96 = .ok (.sipush 256, 3) := by decide +kernel
theorem dX6_fillTables_99 : decode cX6_fillTables 99 = .ok (.imul, 1) := by decide +kernel
theorem dX6_fillTables_100 : decode cX6_fillTables 100 = .ok (.iload_n 1, 1) := by decide +kernel
theorem dX6_fillTables_101 : decode cX6_fillTables 101 = .ok (.iadd, 1) := by decide +kernel
theorem dX6_fillTables_102 : decode cX6_fillTables 102 = .ok (.aload_n 0, 1) := by decide +kernel
theorem dX6_fillTables_103 : decode cX6_fillTables 103 = .ok (.aload_n 0, 1) := by decide +kernel
theorem dX6_fillTables_104 : decode cX6_fillTables 104 = .ok (.getfield 15, 3) := by decide +kernel
theorem dX6_fillTables_107 : decode cX6_fillTables 107 = .ok (.iload_n 3, 1) := by decide +kernel
theorem dX6_fillTables_108 : decode cX6_fillTables 108 = .ok (.iaload, 1) := by decide +kernel
theorem dX6_fillTables_109 : decode cX6_fillTables 109 = .ok (.aload_n 0, 1) := by decide +kernel
theorem dX6_fillTables_110 : decode cX6_fillTables 110 = .ok (.getfield 18, 3) := by decide +kernel
theorem dX6_fillTables_113 : decode cX6_fillTables 113 = .ok (.iload_n 3, 1) := by decide +kernel
theorem dX6_fillTables_114 : decode cX6_fillTables 114 = .ok (.iaload, 1) := by decide +kernel
theorem dX6_fillTables_115 : decode cX6_fillTables 115 = .ok (.iload_n 1, 1) := by decide +kernel
theorem dX6_fillTables_116 : decode cX6_fillTables 116 = .ok (.iconst 0, 1) := by decide +kernel
theorem dX6_fillTables_117 : decode cX6_fillTables 117 = .ok (.invokevirtual 61, 3) := by decide +kernel
theorem dX6_fillTables_120 : decode cX6_fillTables 120 = .ok (.iastore, 1) := by decide +kernel
theorem dX6_fillTables_121 : decode cX6_fillTables 121 = .ok (.iinc 3 1, 3) := by decide +kernel
theorem dX6_fillTables_124 : decode cX6_fillTables 124 = .ok (.goto (-58), 3) := by decide +kernel
theorem dX6_fillTables_127 : decode cX6_fillTables 127 = .ok (.iinc 1 1, 3) := by decide +kernel
theorem dX6_fillTables_130 : decode cX6_fillTables 130 = .ok (.goto (-128), 3) := by decide +kernel
theorem dX6_fillTables_133 : decode cX6_fillTables 133 = .ok (.return_, 1) := by decide +kernel
theorem dX6_tagOf_0 : decode cX6_tagOf 0 = .ok (.iload_n 1, 1) := by decide +kernel
theorem dX6_tagOf_1 : decode cX6_tagOf 1 = .ok (.ifCond .lt 19, 3) := by decide +kernel
theorem dX6_tagOf_4 : decode cX6_tagOf 4 = .ok (.iload_n 1, 1) := by decide +kernel
theorem dX6_tagOf_5 : decode cX6_tagOf 5 = .ok (.sipush 256, 3) := by decide +kernel
theorem dX6_tagOf_8 : decode cX6_tagOf 8 = .ok (.if_icmp .ge 12, 3) := by decide +kernel
theorem dX6_tagOf_11 : decode cX6_tagOf 11 = .ok (.aload_n 0, 1) := by decide +kernel
theorem dX6_tagOf_12 : decode cX6_tagOf 12 = .ok (.getfield 21, 3) := by decide +kernel
theorem dX6_tagOf_15 : decode cX6_tagOf 15 = .ok (.iload_n 1, 1) := by decide +kernel
theorem dX6_tagOf_16 : decode cX6_tagOf 16 = .ok (.iaload, 1) := by decide +kernel
theorem dX6_tagOf_17 : decode cX6_tagOf 17 = .ok (.goto 4, 3) := by decide +kernel
theorem dX6_tagOf_20 : decode cX6_tagOf 20 = .ok (.iconst 0, 1) := by decide +kernel
theorem dX6_tagOf_21 : decode cX6_tagOf 21 = .ok (.ireturn, 1) := by decide +kernel
theorem dX6_valueOf_0 : decode cX6_valueOf 0 = .ok (.iload_n 1, 1) := by decide +kernel
theorem dX6_valueOf_1 : decode cX6_valueOf 1 = .ok (.ifCond .lt 32, 3) := by decide +kernel
theorem dX6_valueOf_4 : decode cX6_valueOf 4 = .ok (.iload_n 1, 1) := by decide +kernel
theorem dX6_valueOf_5 : decode cX6_valueOf 5 = .ok (.aload_n 0, 1) := by decide +kernel
theorem dX6_valueOf_6 : decode cX6_valueOf 6 = .ok (.getfield 40, 3) := by decide +kernel
theorem dX6_valueOf_9 : decode cX6_valueOf 9 = .ok (.if_icmp .ge 24, 3) := by decide +kernel
theorem dX6_valueOf_12 : decode cX6_valueOf 12 = .ok (.aload_n 0, 1) := by decide +kernel
theorem dX6_valueOf_13 : decode cX6_valueOf 13 = .ok (.aload_n 0, 1) := by decide +kernel
theorem dX6_valueOf_14 : decode cX6_valueOf 14 = .ok (.getfield 15, 3) := by decide +kernel
theorem dX6_valueOf_17 : decode cX6_valueOf 17 = .ok (.iload_n 1, 1) := by decide +kernel
theorem dX6_valueOf_18 : decode cX6_valueOf 18 = .ok (.iaload, 1) := by decide +kernel
theorem dX6_valueOf_19 : decode cX6_valueOf 19 = .ok (.aload_n 0, 1) := by decide +kernel
theorem dX6_valueOf_20 : decode cX6_valueOf 20 = .ok (.getfield 18, 3) := by decide +kernel
theorem dX6_valueOf_23 : decode cX6_valueOf 23 = .ok (.iload_n 1, 1) := by decide +kernel
theorem dX6_valueOf_24 : decode cX6_valueOf 24 = .ok (.iaload, 1) := by decide +kernel
theorem dX6_valueOf_25 : decode cX6_valueOf 25 = .ok (.iload_n 2, 1) := by decide +kernel
theorem dX6_valueOf_26 : decode cX6_valueOf 26 = .ok (.iload_n 3, 1) := by decide +kernel
theorem dX6_valueOf_27 : decode cX6_valueOf 27 = .ok (.invokevirtual 61, 3) := by decide +kernel
theorem dX6_valueOf_30 : decode cX6_valueOf 30 = .ok (.goto 4, 3) := by decide +kernel
theorem dX6_valueOf_33 : decode cX6_valueOf 33 = .ok (.iconst 0, 1) := by decide +kernel
theorem dX6_valueOf_34 : decode cX6_valueOf 34 = .ok (.ireturn, 1) := by decide +kernel
theorem dX6_placeOf_0 : decode cX6_placeOf 0 = .ok (.iload_n 1, 1) := by decide +kernel
theorem dX6_placeOf_1 : decode cX6_placeOf 1 = .ok (.ifCond .lt 17, 3) := by decide +kernel
theorem dX6_placeOf_4 : decode cX6_placeOf 4 = .ok (.iload_n 1, 1) := by decide +kernel
theorem dX6_placeOf_5 : decode cX6_placeOf 5 = .ok (.aload_n 0, 1) := by decide +kernel
theorem dX6_placeOf_6 : decode cX6_placeOf 6 = .ok (.getfield 40, 3) := by decide +kernel
theorem dX6_placeOf_9 : decode cX6_placeOf 9 = .ok (.if_icmp .ge 9, 3) := by decide +kernel
theorem dX6_placeOf_12 : decode cX6_placeOf 12 = .ok (.iload_n 1, 1) := by decide +kernel
theorem dX6_placeOf_13 : decode cX6_placeOf 13 = .ok (.bipush 6, 2) := by decide +kernel
theorem dX6_placeOf_15 : decode cX6_placeOf 15 = .ok (.if_icmp .lt 5, 3) := by decide +kernel
theorem dX6_placeOf_18 : decode cX6_placeOf 18 = .ok (.iconst 0, 1) := by decide +kernel
theorem dX6_placeOf_19 : decode cX6_placeOf 19 = .ok (.ireturn, 1) := by decide +kernel
theorem dX6_placeOf_20 : decode cX6_placeOf 20 = .ok (.aload_n 0, 1) := by decide +kernel
theorem dX6_placeOf_21 : decode cX6_placeOf 21 = .ok (.getfield 52, 3) := by decide +kernel
theorem dX6_placeOf_24 : decode cX6_placeOf 24 = .ok (.iload_n 1, 1) := by decide +kernel
theorem dX6_placeOf_25 : decode cX6_placeOf 25 = .ok (.ishr, 1) := by decide +kernel
theorem dX6_placeOf_26 : decode cX6_placeOf 26 = .ok (.iconst 1, 1) := by decide +kernel
theorem dX6_placeOf_27 : decode cX6_placeOf 27 = .ok (.iand, 1) := by decide +kernel
theorem dX6_placeOf_28 : decode cX6_placeOf 28 = .ok (.ifCond .ne 26, 3) := by decide +kernel
theorem dX6_placeOf_31 : decode cX6_placeOf 31 = .ok (.iload_n 2, 1) := by decide +kernel
theorem dX6_placeOf_32 : decode cX6_placeOf 32 = .ok (.ifCond .lt 22, 3) := by decide +kernel
theorem dX6_placeOf_35 : decode cX6_placeOf 35 = .ok (.iload_n 2, 1) := by decide +kernel
theorem dX6_placeOf_36 : decode cX6_placeOf 36 = .ok (.aload_n 0, 1) := by decide +kernel
theorem dX6_placeOf_37 : decode cX6_placeOf 37 = .ok (.getfield 34, 3) := by decide +kernel
theorem dX6_placeOf_40 : decode cX6_placeOf 40 = .ok (.if_icmp .ge 14, 3) := by decide +kernel
theorem dX6_placeOf_43 : decode cX6_placeOf 43 = .ok (.iload_n 2, 1) := by decide +kernel
theorem dX6_placeOf_44 : decode cX6_placeOf 44 = .ok (.sipush 256, 3) := by decide +kernel
theorem dX6_placeOf_47 : decode cX6_placeOf 47 = .ok (.if_icmp .ge 7, 3) := by decide +kernel
theorem dX6_placeOf_50 : decode cX6_placeOf 50 = .ok (.iconst 1, 1) := by decide +kernel
theorem dX6_placeOf_51 : decode cX6_placeOf 51 = .ok (.goto 4, 3) := by decide +kernel
theorem dX6_placeOf_54 : decode cX6_placeOf 54 = .ok (.iconst 0, 1) := by decide +kernel
theorem dX6_placeOf_55 : decode cX6_placeOf 55 = .ok (.istore 4, 2) := by decide +kernel
theorem dX6_placeOf_57 : decode cX6_placeOf 57 = .ok (.iload 4, 2) := by decide +kernel
theorem dX6_placeOf_59 : decode cX6_placeOf 59 = .ok (.ifCond .eq 18, 3) := by decide +kernel
theorem dX6_placeOf_62 : decode cX6_placeOf 62 = .ok (.aload_n 0, 1) := by decide +kernel
theorem dX6_placeOf_63 : decode cX6_placeOf 63 = .ok (.getfield 24, 3) := by decide +kernel
theorem dX6_placeOf_66 : decode cX6_placeOf 66 = .ok (.iload_n 1, 1) := by decide +kernel
theorem dX6_placeOf_67 : decode cX6_placeOf 67 = .ok (.sipush 256, 3) := by decide +kernel
theorem dX6_placeOf_70 : decode cX6_placeOf 70 = .ok (.imul, 1) := by decide +kernel
theorem dX6_placeOf_71 : decode cX6_placeOf 71 = .ok (.iload_n 2, 1) := by decide +kernel
theorem dX6_placeOf_72 : decode cX6_placeOf 72 = .ok (.iadd, 1) := by decide +kernel
theorem dX6_placeOf_73 : decode cX6_placeOf 73 = .ok (.iaload, 1) := by decide +kernel
theorem dX6_placeOf_74 : decode cX6_placeOf 74 = .ok (.goto 21, 3) := by decide +kernel
theorem dX6_placeOf_77 : decode cX6_placeOf 77 = .ok (.aload_n 0, 1) := by decide +kernel
theorem dX6_placeOf_78 : decode cX6_placeOf 78 = .ok (.aload_n 0, 1) := by decide +kernel
theorem dX6_placeOf_79 : decode cX6_placeOf 79 = .ok (.getfield 15, 3) := by decide +kernel
theorem dX6_placeOf_82 : decode cX6_placeOf 82 = .ok (.iload_n 1, 1) := by decide +kernel
theorem dX6_placeOf_83 : decode cX6_placeOf 83 = .ok (.iaload, 1) := by decide +kernel
theorem dX6_placeOf_84 : decode cX6_placeOf 84 = .ok (.aload_n 0, 1) := by decide +kernel
theorem dX6_placeOf_85 : decode cX6_placeOf 85 = .ok (.getfield 18, 3) := by decide +kernel
theorem dX6_placeOf_88 : decode cX6_placeOf 88 = .ok (.iload_n 1, 1) := by decide +kernel
theorem dX6_placeOf_89 : decode cX6_placeOf 89 = .ok (.iaload, 1) := by decide +kernel
theorem dX6_placeOf_90 : decode cX6_placeOf 90 = .ok (.iload_n 2, 1) := by decide +kernel
theorem dX6_placeOf_91 : decode cX6_placeOf 91 = .ok (.iload_n 3, 1) := by decide +kernel
theorem dX6_placeOf_92 : decode cX6_placeOf 92 = .ok (.invokevirtual 61, 3) := by decide +kernel
theorem dX6_placeOf_95 : decode cX6_placeOf 95 = .ok (.istore 5, 2) := by decide +kernel
theorem dX6_placeOf_97 : decode cX6_placeOf 97 = .ok (.iload 5, 2) := by decide +kernel
theorem dX6_placeOf_99 : decode cX6_placeOf 99 = .ok (.iload_n 3, 1) := by decide +kernel
theorem dX6_placeOf_100 : decode cX6_placeOf 100 = .ok (.invokestatic 65, 3) := by decide +kernel
theorem dX6_placeOf_103 : decode cX6_placeOf 103 = .ok (.ireturn, 1) := by decide +kernel
theorem dX6_placesOf_0 : decode cX6_placesOf 0 = .ok (.lconst 0, 1) := by decide +kernel
theorem dX6_placesOf_1 : decode cX6_placesOf 1 = .ok (.lstore 4, 2) := by decide +kernel
theorem dX6_placesOf_3 : decode cX6_placesOf 3 = .ok (.iconst 0, 1) := by decide +kernel
theorem dX6_placesOf_4 : decode cX6_placesOf 4 = .ok (.istore 6, 2) := by decide +kernel
theorem dX6_placesOf_6 : decode cX6_placesOf 6 = .ok (.iload 6, 2) := by decide +kernel
theorem dX6_placesOf_8 : decode cX6_placesOf 8 = .ok (.iload_n 3, 1) := by decide +kernel
theorem dX6_placesOf_9 : decode cX6_placesOf 9 = .ok (.if_icmp .ge 24, 3) := by decide +kernel
theorem dX6_placesOf_12 : decode cX6_placesOf 12 = .ok (.lload 4, 2) := by decide +kernel
theorem dX6_placesOf_14 : decode cX6_placesOf 14 = .ok (.lconst 1, 1) := by decide +kernel
theorem dX6_placesOf_15 : decode cX6_placesOf 15 = .ok (.aload_n 0, 1) := by decide +kernel
theorem dX6_placesOf_16 : decode cX6_placesOf 16 = .ok (.iload 6, 2) := by decide +kernel
theorem dX6_placesOf_18 : decode cX6_placesOf 18 = .ok (.iload_n 1, 1) := by decide +kernel
theorem dX6_placesOf_19 : decode cX6_placesOf 19 = .ok (.iload_n 2, 1) := by decide +kernel
theorem dX6_placesOf_20 : decode cX6_placesOf 20 = .ok (.invokevirtual 68, 3) := by decide +kernel
theorem dX6_placesOf_23 : decode cX6_placesOf 23 = .ok (.lshl, 1) := by decide +kernel
theorem dX6_placesOf_24 : decode cX6_placesOf 24 = .ok (.lor, 1) := by decide +kernel
theorem dX6_placesOf_25 : decode cX6_placesOf 25 = .ok (.lstore 4, 2) := by decide +kernel
theorem dX6_placesOf_27 : decode cX6_placesOf 27 = .ok (.iinc 6 1, 3) := by decide +kernel
theorem dX6_placesOf_30 : decode cX6_placesOf 30 = .ok (.goto (-24), 3) := by decide +kernel
theorem dX6_placesOf_33 : decode cX6_placesOf 33 = .ok (.lload 4, 2) := by decide +kernel
theorem dX6_placesOf_35 : decode cX6_placesOf 35 = .ok (.lreturn, 1) := by decide +kernel
theorem dX6_compute_0 : decode cX6_compute 0 = .ok (.iconst 0, 1) := by decide +kernel
theorem dX6_compute_1 : decode cX6_compute 1 = .ok (.istore 5, 2) := by decide +kernel
theorem dX6_compute_3 : decode cX6_compute 3 = .ok (.iload_n 1, 1) := by decide +kernel
theorem dX6_compute_4 : decode cX6_compute 4 = .ok (.istore 6, 2) := by decide +kernel
theorem dX6_compute_6 : decode cX6_compute 6 = .ok (.iload 6, 2) := by decide +kernel
theorem dX6_compute_8 : decode cX6_compute 8 = .ok (.iload_n 2, 1) := by decide +kernel
theorem dX6_compute_9 : decode cX6_compute 9 = .ok (.if_icmp .ge 225, 3) := by decide +kernel
theorem dX6_compute_12 : decode cX6_compute 12 = .ok (.iload 6, 2) := by decide +kernel
theorem dX6_compute_14 : decode cX6_compute 14 = .ok (.aload_n 0, 1) := by decide +kernel
theorem dX6_compute_15 : decode cX6_compute 15 = .ok (.getfield 9, 3) := by decide +kernel
theorem dX6_compute_18 : decode cX6_compute 18 = .ok (.arraylength, 1) := by decide +kernel
theorem dX6_compute_19 : decode cX6_compute 19 = .ok (.if_icmp .ge 215, 3) := by decide +kernel
theorem dX6_compute_22 : decode cX6_compute 22 = .ok (.aload_n 0, 1) := by decide +kernel
theorem dX6_compute_23 : decode cX6_compute 23 = .ok (.getfield 9, 3) := by decide +kernel
theorem dX6_compute_26 : decode cX6_compute 26 = .ok (.iload 6, 2) := by decide +kernel
theorem dX6_compute_28 : decode cX6_compute 28 = .ok (.iaload, 1) := by decide +kernel
theorem dX6_compute_29 : decode cX6_compute 29 = .ok (.istore 7, 2) := by decide +kernel
theorem dX6_compute_31 : decode cX6_compute 31 = .ok (.iload 7, 2) := by decide +kernel
theorem dX6_compute_33 : decode cX6_compute 33 = .ok (.bipush (-3), 2) := by decide +kernel
theorem dX6_compute_35 : decode cX6_compute 35 = .ok (.if_icmp .le 47, 3) := by decide +kernel
theorem dX6_compute_38 : decode cX6_compute 38 = .ok (.iload 5, 2) := by decide +kernel
theorem dX6_compute_40 : decode cX6_compute 40 = .ok (.bipush 16, 2) := by decide +kernel
theorem dX6_compute_42 : decode cX6_compute 42 = .ok (.if_icmp .ge 40, 3) := by decide +kernel
theorem dX6_compute_45 : decode cX6_compute 45 = .ok (.aload_n 0, 1) := by decide +kernel
theorem dX6_compute_46 : decode cX6_compute 46 = .ok (.getfield 27, 3) := by decide +kernel
theorem dX6_compute_49 : decode cX6_compute 49 = .ok (.iload 5, 2) := by decide +kernel
theorem dX6_compute_51 : decode cX6_compute 51 = .ok (.iload 7, 2) := by decide +kernel
theorem dX6_compute_53 : decode cX6_compute 53 = .ok (.iconst (-1), 1) := by decide +kernel
theorem dX6_compute_54 : decode cX6_compute 54 = .ok (.if_icmp .ne 7, 3) := by decide +kernel
theorem dX6_compute_57 : decode cX6_compute 57 = .ok (.iload_n 3, 1) := by decide +kernel
theorem dX6_compute_58 : decode cX6_compute 58 = .ok (.goto 17, 3) := by decide +kernel
theorem dX6_compute_61 : decode cX6_compute 61 = .ok (.iload 7, 2) := by decide +kernel
theorem dX6_compute_63 : decode cX6_compute 63 = .ok (.bipush (-2), 2) := by decide +kernel
theorem dX6_compute_65 : decode cX6_compute 65 = .ok (.if_icmp .ne 8, 3) := by decide +kernel
theorem dX6_compute_68 : decode cX6_compute 68 = .ok (.iload 4, 2) := by decide +kernel
theorem dX6_compute_70 : decode cX6_compute 70 = .ok (.goto 5, 3) := by decide +kernel
theorem dX6_compute_73 : decode cX6_compute 73 = .ok (.iload 7, 2) := by decide +kernel
theorem dX6_compute_75 : decode cX6_compute 75 = .ok (.iastore, 1) := by decide +kernel
theorem dX6_compute_76 : decode cX6_compute 76 = .ok (.iinc 5 1, 3) := by decide +kernel
theorem dX6_compute_79 : decode cX6_compute 79 = .ok (.goto 149, 3) := by decide +kernel
theorem dX6_compute_82 : decode cX6_compute 82 = .ok (.iload 7, 2) := by decide +kernel
theorem dX6_compute_84 : decode cX6_compute 84 = .ok (.bipush (-3), 2) := by decide +kernel
theorem dX6_compute_86 : decode cX6_compute 86 = .ok (.if_icmp .gt 142, 3) := by decide +kernel
theorem dX6_compute_89 : decode cX6_compute 89 = .ok (.iload 5, 2) := by decide +kernel
theorem dX6_compute_91 : decode cX6_compute 91 = .ok (.iconst 2, 1) := by decide +kernel
theorem dX6_compute_92 : decode cX6_compute 92 = .ok (.if_icmp .lt 136, 3) := by decide +kernel
theorem dX6_compute_95 : decode cX6_compute 95 = .ok (.iinc 5 (-1), 3) := by decide +kernel
theorem dX6_compute_98 : decode cX6_compute 98 = .ok (.aload_n 0, 1) := by decide +kernel
theorem dX6_compute_99 : decode cX6_compute 99 = .ok (.getfield 27, 3) := by decide +kernel
theorem dX6_compute_102 : decode cX6_compute 102 = .ok (.iload 5, 2) := by decide +kernel
theorem dX6_compute_104 : decode cX6_compute 104 = .ok (.iconst 1, 1) := by decide +kernel
theorem dX6_compute_105 : decode cX6_compute 105 = .ok (.isub, 1) := by decide +kernel
theorem dX6_compute_106 : decode cX6_compute 106 = .ok (.iaload, 1) := by decide +kernel
theorem dX6_compute_107 : decode cX6_compute 107 = .ok (.istore 8, 2) := by decide +kernel
theorem dX6_compute_109 : decode cX6_compute 109 = .ok (.aload_n 0, 1) := by decide +kernel
theorem dX6_compute_110 : decode cX6_compute 110 = .ok (.getfield 27, 3) := by decide +kernel
theorem dX6_compute_113 : decode cX6_compute 113 = .ok (.iload 5, 2) := by decide +kernel
theorem dX6_compute_115 : decode cX6_compute 115 = .ok (.iaload, 1) := by decide +kernel
theorem dX6_compute_116 : decode cX6_compute 116 = .ok (.istore 9, 2) := by decide +kernel
theorem dX6_compute_118 : decode cX6_compute 118 = .ok (.iload 7, 2) := by decide +kernel
theorem dX6_compute_120 : decode cX6_compute 120 = .ok (.tableswitch 81 (-6) (-3) #[62, 52, 42, 32], 32) := by decide +kernel
theorem dX6_compute_152 : decode cX6_compute 152 = .ok (.iload 8, 2) := by decide +kernel
theorem dX6_compute_154 : decode cX6_compute 154 = .ok (.iload 9, 2) := by decide +kernel
theorem dX6_compute_156 : decode cX6_compute 156 = .ok (.iadd, 1) := by decide +kernel
theorem dX6_compute_157 : decode cX6_compute 157 = .ok (.istore 8, 2) := by decide +kernel
theorem dX6_compute_159 : decode cX6_compute 159 = .ok (.goto 58, 3) := by decide +kernel
theorem dX6_compute_162 : decode cX6_compute 162 = .ok (.iload 8, 2) := by decide +kernel
theorem dX6_compute_164 : decode cX6_compute 164 = .ok (.iload 9, 2) := by decide +kernel
theorem dX6_compute_166 : decode cX6_compute 166 = .ok (.isub, 1) := by decide +kernel
theorem dX6_compute_167 : decode cX6_compute 167 = .ok (.istore 8, 2) := by decide +kernel
theorem dX6_compute_169 : decode cX6_compute 169 = .ok (.goto 48, 3) := by decide +kernel
theorem dX6_compute_172 : decode cX6_compute 172 = .ok (.iload 8, 2) := by decide +kernel
theorem dX6_compute_174 : decode cX6_compute 174 = .ok (.iload 9, 2) := by decide +kernel
theorem dX6_compute_176 : decode cX6_compute 176 = .ok (.imul, 1) := by decide +kernel
theorem dX6_compute_177 : decode cX6_compute 177 = .ok (.istore 8, 2) := by decide +kernel
theorem dX6_compute_179 : decode cX6_compute 179 = .ok (.goto 38, 3) := by decide +kernel
theorem dX6_compute_182 : decode cX6_compute 182 = .ok (.iload 9, 2) := by decide +kernel
theorem dX6_compute_184 : decode cX6_compute 184 = .ok (.ifCond .ne 7, 3) := by decide +kernel
theorem dX6_compute_187 : decode cX6_compute 187 = .ok (.iconst 0, 1) := by decide +kernel
theorem dX6_compute_188 : decode cX6_compute 188 = .ok (.goto 8, 3) := by decide +kernel
theorem dX6_compute_191 : decode cX6_compute 191 = .ok (.iload 8, 2) := by decide +kernel
theorem dX6_compute_193 : decode cX6_compute 193 = .ok (.iload 9, 2) := by decide +kernel
theorem dX6_compute_195 : decode cX6_compute 195 = .ok (.idiv, 1) := by decide +kernel
theorem dX6_compute_196 : decode cX6_compute 196 = .ok (.istore 8, 2) := by decide +kernel
theorem dX6_compute_198 : decode cX6_compute 198 = .ok (.goto 19, 3) := by decide +kernel
theorem dX6_compute_201 : decode cX6_compute 201 = .ok (.iload 9, 2) := by decide +kernel
theorem dX6_compute_203 : decode cX6_compute 203 = .ok (.ifCond .ne 7, 3) := by decide +kernel
theorem dX6_compute_206 : decode cX6_compute 206 = .ok (.iconst 0, 1) := by decide +kernel
theorem dX6_compute_207 : decode cX6_compute 207 = .ok (.goto 8, 3) := by decide +kernel
theorem dX6_compute_210 : decode cX6_compute 210 = .ok (.iload 8, 2) := by decide +kernel
theorem dX6_compute_212 : decode cX6_compute 212 = .ok (.iload 9, 2) := by decide +kernel
theorem dX6_compute_214 : decode cX6_compute 214 = .ok (.irem, 1) := by decide +kernel
theorem dX6_compute_215 : decode cX6_compute 215 = .ok (.istore 8, 2) := by decide +kernel
theorem dX6_compute_217 : decode cX6_compute 217 = .ok (.aload_n 0, 1) := by decide +kernel
theorem dX6_compute_218 : decode cX6_compute 218 = .ok (.getfield 27, 3) := by decide +kernel
theorem dX6_compute_221 : decode cX6_compute 221 = .ok (.iload 5, 2) := by decide +kernel
theorem dX6_compute_223 : decode cX6_compute 223 = .ok (.iconst 1, 1) := by decide +kernel
theorem dX6_compute_224 : decode cX6_compute 224 = .ok (.isub, 1) := by decide +kernel
theorem dX6_compute_225 : decode cX6_compute 225 = .ok (.iload 8, 2) := by decide +kernel
theorem dX6_compute_227 : decode cX6_compute 227 = .ok (.iastore, 1) := by decide +kernel
theorem dX6_compute_228 : decode cX6_compute 228 = .ok (.iinc 6 1, 3) := by decide +kernel
theorem dX6_compute_231 : decode cX6_compute 231 = .ok (.goto (-225), 3) := by decide +kernel
theorem dX6_compute_234 : decode cX6_compute 234 = .ok (.aload_n 0, 1) := by decide +kernel
theorem dX6_compute_235 : decode cX6_compute 235 = .ok (.getfield 27, 3) := by decide +kernel
theorem dX6_compute_238 : decode cX6_compute 238 = .ok (.iconst 0, 1) := by decide +kernel
theorem dX6_compute_239 : decode cX6_compute 239 = .ok (.iaload, 1) := by decide +kernel
theorem dX6_compute_240 : decode cX6_compute 240 = .ok (.ireturn, 1) := by decide +kernel
theorem dX6_copyFrom_0 : decode cX6_copyFrom 0 = .ok (.aload_n 0, 1) := by decide +kernel
theorem dX6_copyFrom_1 : decode cX6_copyFrom 1 = .ok (.aload_n 1, 1) := by decide +kernel
theorem dX6_copyFrom_2 : decode cX6_copyFrom 2 = .ok (.getfield 30, 3) := by decide +kernel
theorem dX6_copyFrom_5 : decode cX6_copyFrom 5 = .ok (.putfield 30, 3) := by decide +kernel
theorem dX6_copyFrom_8 : decode cX6_copyFrom 8 = .ok (.aload_n 0, 1) := by decide +kernel
theorem dX6_copyFrom_9 : decode cX6_copyFrom 9 = .ok (.aload_n 1, 1) := by decide +kernel
theorem dX6_copyFrom_10 : decode cX6_copyFrom 10 = .ok (.getfield 34, 3) := by decide +kernel
theorem dX6_copyFrom_13 : decode cX6_copyFrom 13 = .ok (.putfield 34, 3) := by decide +kernel
theorem dX6_copyFrom_16 : decode cX6_copyFrom 16 = .ok (.aload_n 0, 1) := by decide +kernel
theorem dX6_copyFrom_17 : decode cX6_copyFrom 17 = .ok (.aload_n 1, 1) := by decide +kernel
theorem dX6_copyFrom_18 : decode cX6_copyFrom 18 = .ok (.getfield 37, 3) := by decide +kernel
theorem dX6_copyFrom_21 : decode cX6_copyFrom 21 = .ok (.putfield 37, 3) := by decide +kernel
theorem dX6_copyFrom_24 : decode cX6_copyFrom 24 = .ok (.aload_n 0, 1) := by decide +kernel
theorem dX6_copyFrom_25 : decode cX6_copyFrom 25 = .ok (.aload_n 1, 1) := by decide +kernel
theorem dX6_copyFrom_26 : decode cX6_copyFrom 26 = .ok (.getfield 40, 3) := by decide +kernel
theorem dX6_copyFrom_29 : decode cX6_copyFrom 29 = .ok (.putfield 40, 3) := by decide +kernel
theorem dX6_copyFrom_32 : decode cX6_copyFrom 32 = .ok (.aload_n 0, 1) := by decide +kernel
theorem dX6_copyFrom_33 : decode cX6_copyFrom 33 = .ok (.aload_n 1, 1) := by decide +kernel
theorem dX6_copyFrom_34 : decode cX6_copyFrom 34 = .ok (.getfield 43, 3) := by decide +kernel
theorem dX6_copyFrom_37 : decode cX6_copyFrom 37 = .ok (.putfield 43, 3) := by decide +kernel
theorem dX6_copyFrom_40 : decode cX6_copyFrom 40 = .ok (.aload_n 0, 1) := by decide +kernel
theorem dX6_copyFrom_41 : decode cX6_copyFrom 41 = .ok (.aload_n 1, 1) := by decide +kernel
theorem dX6_copyFrom_42 : decode cX6_copyFrom 42 = .ok (.getfield 46, 3) := by decide +kernel
theorem dX6_copyFrom_45 : decode cX6_copyFrom 45 = .ok (.putfield 46, 3) := by decide +kernel
theorem dX6_copyFrom_48 : decode cX6_copyFrom 48 = .ok (.aload_n 0, 1) := by decide +kernel
theorem dX6_copyFrom_49 : decode cX6_copyFrom 49 = .ok (.aload_n 1, 1) := by decide +kernel
theorem dX6_copyFrom_50 : decode cX6_copyFrom 50 = .ok (.getfield 49, 3) := by decide +kernel
theorem dX6_copyFrom_53 : decode cX6_copyFrom 53 = .ok (.putfield 49, 3) := by decide +kernel
theorem dX6_copyFrom_56 : decode cX6_copyFrom 56 = .ok (.aload_n 0, 1) := by decide +kernel
theorem dX6_copyFrom_57 : decode cX6_copyFrom 57 = .ok (.aload_n 1, 1) := by decide +kernel
theorem dX6_copyFrom_58 : decode cX6_copyFrom 58 = .ok (.getfield 52, 3) := by decide +kernel
theorem dX6_copyFrom_61 : decode cX6_copyFrom 61 = .ok (.putfield 52, 3) := by decide +kernel
theorem dX6_copyFrom_64 : decode cX6_copyFrom 64 = .ok (.aload_n 1, 1) := by decide +kernel
theorem dX6_copyFrom_65 : decode cX6_copyFrom 65 = .ok (.getfield 9, 3) := by decide +kernel
theorem dX6_copyFrom_68 : decode cX6_copyFrom 68 = .ok (.iconst 0, 1) := by decide +kernel
theorem dX6_copyFrom_69 : decode cX6_copyFrom 69 = .ok (.aload_n 0, 1) := by decide +kernel
theorem dX6_copyFrom_70 : decode cX6_copyFrom 70 = .ok (.getfield 9, 3) := by decide +kernel
theorem dX6_copyFrom_73 : decode cX6_copyFrom 73 = .ok (.iconst 0, 1) := by decide +kernel
theorem dX6_copyFrom_74 : decode cX6_copyFrom 74 = .ok (.aload_n 0, 1) := by decide +kernel
theorem dX6_copyFrom_75 : decode cX6_copyFrom 75 = .ok (.getfield 9, 3) := by decide +kernel
theorem dX6_copyFrom_78 : decode cX6_copyFrom 78 = .ok (.arraylength, 1) := by decide +kernel
theorem dX6_copyFrom_79 : decode cX6_copyFrom 79 = .ok (.invokestatic 72, 3) := by decide +kernel
theorem dX6_copyFrom_82 : decode cX6_copyFrom 82 = .ok (.aload_n 1, 1) := by decide +kernel
theorem dX6_copyFrom_83 : decode cX6_copyFrom 83 = .ok (.getfield 15, 3) := by decide +kernel
theorem dX6_copyFrom_86 : decode cX6_copyFrom 86 = .ok (.iconst 0, 1) := by decide +kernel
theorem dX6_copyFrom_87 : decode cX6_copyFrom 87 = .ok (.aload_n 0, 1) := by decide +kernel
theorem dX6_copyFrom_88 : decode cX6_copyFrom 88 = .ok (.getfield 15, 3) := by decide +kernel
theorem dX6_copyFrom_91 : decode cX6_copyFrom 91 = .ok (.iconst 0, 1) := by decide +kernel
theorem dX6_copyFrom_92 : decode cX6_copyFrom 92 = .ok (.aload_n 0, 1) := by decide +kernel
theorem dX6_copyFrom_93 : decode cX6_copyFrom 93 = .ok (.getfield 15, 3) := by decide +kernel
theorem dX6_copyFrom_96 : decode cX6_copyFrom 96 = .ok (.arraylength, 1) := by decide +kernel
theorem dX6_copyFrom_97 : decode cX6_copyFrom 97 = .ok (.invokestatic 72, 3) := by decide +kernel
theorem dX6_copyFrom_100 : decode cX6_copyFrom 100 = .ok (.aload_n 1, 1) := by decide +kernel
theorem dX6_copyFrom_101 : decode cX6_copyFrom 101 = .ok (.getfield 18, 3) := by decide +kernel
theorem dX6_copyFrom_104 : decode cX6_copyFrom 104 = .ok (.iconst 0, 1) := by decide +kernel
theorem dX6_copyFrom_105 : decode cX6_copyFrom 105 = .ok (.aload_n 0, 1) := by decide +kernel
theorem dX6_copyFrom_106 : decode cX6_copyFrom 106 = .ok (.getfield 18, 3) := by decide +kernel
theorem dX6_copyFrom_109 : decode cX6_copyFrom 109 = .ok (.iconst 0, 1) := by decide +kernel
theorem dX6_copyFrom_110 : decode cX6_copyFrom 110 = .ok (.aload_n 0, 1) := by decide +kernel
theorem dX6_copyFrom_111 : decode cX6_copyFrom 111 = .ok (.getfield 18, 3) := by decide +kernel
theorem dX6_copyFrom_114 : decode cX6_copyFrom 114 = .ok (.arraylength, 1) := by decide +kernel
theorem dX6_copyFrom_115 : decode cX6_copyFrom 115 = .ok (.invokestatic 72, 3) := by decide +kernel
theorem dX6_copyFrom_118 : decode cX6_copyFrom 118 = .ok (.aload_n 1, 1) := by decide +kernel
theorem dX6_copyFrom_119 : decode cX6_copyFrom 119 = .ok (.getfield 21, 3) := by decide +kernel
theorem dX6_copyFrom_122 : decode cX6_copyFrom 122 = .ok (.iconst 0, 1) := by decide +kernel
theorem dX6_copyFrom_123 : decode cX6_copyFrom 123 = .ok (.aload_n 0, 1) := by decide +kernel
theorem dX6_copyFrom_124 : decode cX6_copyFrom 124 = .ok (.getfield 21, 3) := by decide +kernel
theorem dX6_copyFrom_127 : decode cX6_copyFrom 127 = .ok (.iconst 0, 1) := by decide +kernel
theorem dX6_copyFrom_128 : decode cX6_copyFrom 128 = .ok (.aload_n 0, 1) := by decide +kernel
theorem dX6_copyFrom_129 : decode cX6_copyFrom 129 = .ok (.getfield 21, 3) := by decide +kernel
theorem dX6_copyFrom_132 : decode cX6_copyFrom 132 = .ok (.arraylength, 1) := by decide +kernel
theorem dX6_copyFrom_133 : decode cX6_copyFrom 133 = .ok (.invokestatic 72, 3) := by decide +kernel
theorem dX6_copyFrom_136 : decode cX6_copyFrom 136 = .ok (.aload_n 1, 1) := by decide +kernel
theorem dX6_copyFrom_137 : decode cX6_copyFrom 137 = .ok (.getfield 24, 3) := by decide +kernel
theorem dX6_copyFrom_140 : decode cX6_copyFrom 140 = .ok (.iconst 0, 1) := by decide +kernel
theorem dX6_copyFrom_141 : decode cX6_copyFrom 141 = .ok (.aload_n 0, 1) := by decide +kernel
theorem dX6_copyFrom_142 : decode cX6_copyFrom 142 = .ok (.getfield 24, 3) := by decide +kernel
theorem dX6_copyFrom_145 : decode cX6_copyFrom 145 = .ok (.iconst 0, 1) := by decide +kernel
theorem dX6_copyFrom_146 : decode cX6_copyFrom 146 = .ok (.aload_n 0, 1) := by decide +kernel
theorem dX6_copyFrom_147 : decode cX6_copyFrom 147 = .ok (.getfield 24, 3) := by decide +kernel
theorem dX6_copyFrom_150 : decode cX6_copyFrom 150 = .ok (.arraylength, 1) := by decide +kernel
theorem dX6_copyFrom_151 : decode cX6_copyFrom 151 = .ok (.invokestatic 72, 3) := by decide +kernel
theorem dX6_copyFrom_154 : decode cX6_copyFrom 154 = .ok (.return_, 1) := by decide +kernel
theorem dX7_init_0 : decode cX7_init 0 = .ok (.aload_n 0, 1) := by decide +kernel
theorem dX7_init_1 : decode cX7_init 1 = .ok (.invokespecial 3, 3) := by decide +kernel
theorem dX7_init_4 : decode cX7_init 4 = .ok (.aload_n 0, 1) := by decide +kernel
theorem dX7_init_5 : decode cX7_init 5 = .ok (.new 9, 3) := by decide +kernel
theorem dX7_init_8 : decode cX7_init 8 = .ok (.dup, 1) := by decide +kernel
theorem dX7_init_9 : decode cX7_init 9 = .ok (.invokespecial 11, 3) := by decide +kernel
theorem dX7_init_12 : decode cX7_init 12 = .ok (.putfield 12, 3) := by decide +kernel
theorem dX7_init_15 : decode cX7_init 15 = .ok (.aload_n 0, 1) := by decide +kernel
theorem dX7_init_16 : decode cX7_init 16 = .ok (.iconst 4, 1) := by decide +kernel
theorem dX7_init_17 : decode cX7_init 17 = .ok (.anewarray 18, 3) := by decide +kernel
theorem dX7_init_20 : decode cX7_init 20 = .ok (.putfield 20, 3) := by decide +kernel
theorem dX7_init_23 : decode cX7_init 23 = .ok (.iconst 0, 1) := by decide +kernel
theorem dX7_init_24 : decode cX7_init 24 = .ok (.istore_n 1, 1) := by decide +kernel
theorem dX7_init_25 : decode cX7_init 25 = .ok (.iload_n 1, 1) := by decide +kernel
theorem dX7_init_26 : decode cX7_init 26 = .ok (.iconst 4, 1) := by decide +kernel
theorem dX7_init_27 : decode cX7_init 27 = .ok (.if_icmp .ge 22, 3) := by decide +kernel
theorem dX7_init_30 : decode cX7_init 30 = .ok (.aload_n 0, 1) := by decide +kernel
theorem dX7_init_31 : decode cX7_init 31 = .ok (.getfield 20, 3) := by decide +kernel
theorem dX7_init_34 : decode cX7_init 34 = .ok (.iload_n 1, 1) := by decide +kernel
theorem dX7_init_35 : decode cX7_init 35 = .ok (.new 18, 3) := by decide +kernel
theorem dX7_init_38 : decode cX7_init 38 = .ok (.dup, 1) := by decide +kernel
theorem dX7_init_39 : decode cX7_init 39 = .ok (.invokespecial 24, 3) := by decide +kernel
theorem dX7_init_42 : decode cX7_init 42 = .ok (.aastore, 1) := by decide +kernel
theorem dX7_init_43 : decode cX7_init 43 = .ok (.iinc 1 1, 3) := by decide +kernel
theorem dX7_init_46 : decode cX7_init 46 = .ok (.goto (-21), 3) := by decide +kernel
theorem dX7_init_49 : decode cX7_init 49 = .ok (.return_, 1) := by decide +kernel
theorem dX7_removeRows_0 : decode cX7_removeRows 0 = .ok (.iconst 0, 1) := by decide +kernel
theorem dX7_removeRows_1 : decode cX7_removeRows 1 = .ok (.istore_n 1, 1) := by decide +kernel
theorem dX7_removeRows_2 : decode cX7_removeRows 2 = .ok (.iload_n 1, 1) := by decide +kernel
theorem dX7_removeRows_3 : decode cX7_removeRows 3 = .ok (.iconst 4, 1) := by decide +kernel
theorem dX7_removeRows_4 : decode cX7_removeRows 4 = .ok (.if_icmp .ge 19, 3) := by decide +kernel
theorem dX7_removeRows_7 : decode cX7_removeRows 7 = .ok (.aload_n 0, 1) := by decide +kernel
theorem dX7_removeRows_8 : decode cX7_removeRows 8 = .ok (.getfield 20, 3) := by decide +kernel
theorem dX7_removeRows_11 : decode cX7_removeRows 11 = .ok (.iload_n 1, 1) := by decide +kernel
theorem dX7_removeRows_12 : decode cX7_removeRows 12 = .ok (.aaload, 1) := by decide +kernel
theorem dX7_removeRows_13 : decode cX7_removeRows 13 = .ok (.iconst 0, 1) := by decide +kernel
theorem dX7_removeRows_14 : decode cX7_removeRows 14 = .ok (.putfield 25, 3) := by decide +kernel
theorem dX7_removeRows_17 : decode cX7_removeRows 17 = .ok (.iinc 1 1, 3) := by decide +kernel
theorem dX7_removeRows_20 : decode cX7_removeRows 20 = .ok (.goto (-18), 3) := by decide +kernel
theorem dX7_removeRows_23 : decode cX7_removeRows 23 = .ok (.return_, 1) := by decide +kernel
theorem dX7_rowsThere_0 : decode cX7_rowsThere 0 = .ok (.iconst 0, 1) := by decide +kernel
theorem dX7_rowsThere_1 : decode cX7_rowsThere 1 = .ok (.istore_n 1, 1) := by decide +kernel
theorem dX7_rowsThere_2 : decode cX7_rowsThere 2 = .ok (.iconst 0, 1) := by decide +kernel
theorem dX7_rowsThere_3 : decode cX7_rowsThere 3 = .ok (.istore_n 2, 1) := by decide +kernel
theorem dX7_rowsThere_4 : decode cX7_rowsThere 4 = .ok (.iload_n 2, 1) := by decide +kernel
theorem dX7_rowsThere_5 : decode cX7_rowsThere 5 = .ok (.iconst 4, 1) := by decide +kernel
theorem dX7_rowsThere_6 : decode cX7_rowsThere 6 = .ok (.if_icmp .ge 31, 3) := by decide +kernel
theorem dX7_rowsThere_9 : decode cX7_rowsThere 9 = .ok (.iload_n 1, 1) := by decide +kernel
theorem dX7_rowsThere_10 : decode cX7_rowsThere 10 = .ok (.aload_n 0, 1) := by decide +kernel
theorem dX7_rowsThere_11 : decode cX7_rowsThere 11 = .ok (.getfield 20, 3) := by decide +kernel
theorem dX7_rowsThere_14 : decode cX7_rowsThere 14 = .ok (.iload_n 2, 1) := by decide +kernel
theorem dX7_rowsThere_15 : decode cX7_rowsThere 15 = .ok (.aaload, 1) := by decide +kernel
theorem dX7_rowsThere_16 : decode cX7_rowsThere 16 = .ok (.getfield 25, 3) := by decide +kernel
theorem dX7_rowsThere_19 : decode cX7_rowsThere 19 = .ok (.ifCond .eq 7, 3) := by decide +kernel
theorem dX7_rowsThere_22 : decode cX7_rowsThere 22 = .ok (.iconst 1, 1) := by decide +kernel
theorem dX7_rowsThere_23 : decode cX7_rowsThere 23 = .ok (.goto 4, 3) := by decide +kernel
theorem dX7_rowsThere_26 : decode cX7_rowsThere 26 = .ok (.iconst 0, 1) := by decide +kernel
theorem dX7_rowsThere_27 : decode cX7_rowsThere 27 = .ok (.iload_n 2, 1) := by decide +kernel
theorem dX7_rowsThere_28 : decode cX7_rowsThere 28 = .ok (.ishl, 1) := by decide +kernel
theorem dX7_rowsThere_29 : decode cX7_rowsThere 29 = .ok (.ior, 1) := by decide +kernel
theorem dX7_rowsThere_30 : decode cX7_rowsThere 30 = .ok (.istore_n 1, 1) := by decide +kernel
theorem dX7_rowsThere_31 : decode cX7_rowsThere 31 = .ok (.iinc 2 1, 3) := by decide +kernel
theorem dX7_rowsThere_34 : decode cX7_rowsThere 34 = .ok (.goto (-30), 3) := by decide +kernel
theorem dX7_rowsThere_37 : decode cX7_rowsThere 37 = .ok (.iload_n 1, 1) := by decide +kernel
theorem dX7_rowsThere_38 : decode cX7_rowsThere 38 = .ok (.ireturn, 1) := by decide +kernel
theorem dX7_copyFrom_0 : decode cX7_copyFrom 0 = .ok (.aload_n 0, 1) := by decide +kernel
theorem dX7_copyFrom_1 : decode cX7_copyFrom 1 = .ok (.getfield 12, 3) := by decide +kernel
theorem dX7_copyFrom_4 : decode cX7_copyFrom 4 = .ok (.aload_n 1, 1) := by decide +kernel
theorem dX7_copyFrom_5 : decode cX7_copyFrom 5 = .ok (.getfield 12, 3) := by decide +kernel
theorem dX7_copyFrom_8 : decode cX7_copyFrom 8 = .ok (.invokevirtual 29, 3) := by decide +kernel
theorem dX7_copyFrom_11 : decode cX7_copyFrom 11 = .ok (.iconst 0, 1) := by decide +kernel
theorem dX7_copyFrom_12 : decode cX7_copyFrom 12 = .ok (.istore_n 2, 1) := by decide +kernel
theorem dX7_copyFrom_13 : decode cX7_copyFrom 13 = .ok (.iload_n 2, 1) := by decide +kernel
theorem dX7_copyFrom_14 : decode cX7_copyFrom 14 = .ok (.iconst 4, 1) := by decide +kernel
theorem dX7_copyFrom_15 : decode cX7_copyFrom 15 = .ok (.if_icmp .ge 24, 3) := by decide +kernel
theorem dX7_copyFrom_18 : decode cX7_copyFrom 18 = .ok (.aload_n 0, 1) := by decide +kernel
theorem dX7_copyFrom_19 : decode cX7_copyFrom 19 = .ok (.getfield 20, 3) := by decide +kernel
theorem dX7_copyFrom_22 : decode cX7_copyFrom 22 = .ok (.iload_n 2, 1) := by decide +kernel
theorem dX7_copyFrom_23 : decode cX7_copyFrom 23 = .ok (.aaload, 1) := by decide +kernel
theorem dX7_copyFrom_24 : decode cX7_copyFrom 24 = .ok (.aload_n 1, 1) := by decide +kernel
theorem dX7_copyFrom_25 : decode cX7_copyFrom 25 = .ok (.getfield 20, 3) := by decide +kernel
theorem dX7_copyFrom_28 : decode cX7_copyFrom 28 = .ok (.iload_n 2, 1) := by decide +kernel
theorem dX7_copyFrom_29 : decode cX7_copyFrom 29 = .ok (.aaload, 1) := by decide +kernel
theorem dX7_copyFrom_30 : decode cX7_copyFrom 30 = .ok (.invokevirtual 33, 3) := by decide +kernel
theorem dX7_copyFrom_33 : decode cX7_copyFrom 33 = .ok (.iinc 2 1, 3) := by decide +kernel
theorem dX7_copyFrom_36 : decode cX7_copyFrom 36 = .ok (.goto (-23), 3) := by decide +kernel
theorem dX7_copyFrom_39 : decode cX7_copyFrom 39 = .ok (.return_, 1) := by decide +kernel
theorem dX8_init_0 : decode cX8_init 0 = .ok (.aload_n 0, 1) := by decide +kernel
theorem dX8_init_1 : decode cX8_init 1 = .ok (.invokespecial 3, 3) := by decide +kernel
theorem dX8_init_4 : decode cX8_init 4 = .ok (.aload_n 0, 1) := by decide +kernel
theorem dX8_init_5 : decode cX8_init 5 = .ok (.bipush 40, 2) := by decide +kernel
theorem dX8_init_7 : decode cX8_init 7 = .ok (.newarray .long, 2) := by decide +kernel
theorem dX8_init_9 : decode cX8_init 9 = .ok (.putfield 9, 3) := by decide +kernel
theorem dX8_init_12 : decode cX8_init 12 = .ok (.aload_n 0, 1) := by decide +kernel
theorem dX8_init_13 : decode cX8_init 13 = .ok (.bipush 40, 2) := by decide +kernel
theorem dX8_init_15 : decode cX8_init 15 = .ok (.newarray .int, 2) := by decide +kernel
theorem dX8_init_17 : decode cX8_init 17 = .ok (.putfield 15, 3) := by decide +kernel
theorem dX8_init_20 : decode cX8_init 20 = .ok (.aload_n 0, 1) := by decide +kernel
theorem dX8_init_21 : decode cX8_init 21 = .ok (.bipush 64, 2) := by decide +kernel
theorem dX8_init_23 : decode cX8_init 23 = .ok (.newarray .int, 2) := by decide +kernel
theorem dX8_init_25 : decode cX8_init 25 = .ok (.putfield 19, 3) := by decide +kernel
theorem dX8_init_28 : decode cX8_init 28 = .ok (.return_, 1) := by decide +kernel
theorem dX8_solveFor_0 : decode cX8_solveFor 0 = .ok (.aload_n 3, 1) := by decide +kernel
theorem dX8_solveFor_1 : decode cX8_solveFor 1 = .ok (.getfield 22, 3) := by decide +kernel
theorem dX8_solveFor_4 : decode cX8_solveFor 4 = .ok (.bipush 40, 2) := by decide +kernel
theorem dX8_solveFor_6 : decode cX8_solveFor 6 = .ok (.invokestatic 28, 3) := by decide +kernel
theorem dX8_solveFor_9 : decode cX8_solveFor 9 = .ok (.istore 4, 2) := by decide +kernel
theorem dX8_solveFor_11 : decode cX8_solveFor 11 = .ok (.aload_n 0, 1) := by decide +kernel
theorem dX8_solveFor_12 : decode cX8_solveFor 12 = .ok (.lconst 0, 1) := by decide +kernel
theorem dX8_solveFor_13 : decode cX8_solveFor 13 = .ok (.putfield 34, 3) := by decide +kernel
theorem dX8_solveFor_16 : decode cX8_solveFor 16 = .ok (.iconst 0, 1) := by decide +kernel
theorem dX8_solveFor_17 : decode cX8_solveFor 17 = .ok (.istore 5, 2) := by decide +kernel
theorem dX8_solveFor_19 : decode cX8_solveFor 19 = .ok (.iload 5, 2) := by decide +kernel
theorem dX8_solveFor_21 : decode cX8_solveFor 21 = .ok (.iload 4, 2) := by decide +kernel
theorem dX8_solveFor_23 : decode cX8_solveFor 23 = .ok (.if_icmp .ge 24, 3) := by decide +kernel
theorem dX8_solveFor_26 : decode cX8_solveFor 26 = .ok (.aload_n 0, 1) := by decide +kernel
theorem dX8_solveFor_27 : decode cX8_solveFor 27 = .ok (.iload 5, 2) := by decide +kernel
theorem dX8_solveFor_29 : decode cX8_solveFor 29 = .ok (.aload_n 1, 1) := by decide +kernel
theorem dX8_solveFor_30 : decode cX8_solveFor 30 = .ok (.aload_n 2, 1) := by decide +kernel
theorem dX8_solveFor_31 : decode cX8_solveFor 31 = .ok (.aload_n 3, 1) := by decide +kernel
theorem dX8_solveFor_32 : decode cX8_solveFor 32 = .ok (.iload 5, 2) := by decide +kernel
theorem dX8_solveFor_34 : decode cX8_solveFor 34 = .ok (.invokevirtual 38, 3) := by decide +kernel
theorem dX8_solveFor_37 : decode cX8_solveFor 37 = .ok (.l2i, 1) := by decide +kernel
theorem dX8_solveFor_38 : decode cX8_solveFor 38 = .ok (.invokevirtual 42, 3) := by decide +kernel
theorem dX8_solveFor_41 : decode cX8_solveFor 41 = .ok (.iinc 5 1, 3) := by decide +kernel
theorem dX8_solveFor_44 : decode cX8_solveFor 44 = .ok (.goto (-25), 3) := by decide +kernel
theorem dX8_solveFor_47 : decode cX8_solveFor 47 = .ok (.iconst 0, 1) := by decide +kernel
theorem dX8_solveFor_48 : decode cX8_solveFor 48 = .ok (.istore 5, 2) := by decide +kernel
theorem dX8_solveFor_50 : decode cX8_solveFor 50 = .ok (.iload 5, 2) := by decide +kernel
theorem dX8_solveFor_52 : decode cX8_solveFor 52 = .ok (.aload_n 1, 1) := by decide +kernel
theorem dX8_solveFor_53 : decode cX8_solveFor 53 = .ok (.getfield 46, 3) := by decide +kernel
theorem dX8_solveFor_56 : decode cX8_solveFor 56 = .ok (.if_icmp .ge 51, 3) := by decide +kernel
theorem dX8_solveFor_59 : decode cX8_solveFor 59 = .ok (.iload 5, 2) := by decide +kernel
theorem dX8_solveFor_61 : decode cX8_solveFor 61 = .ok (.bipush 64, 2) := by decide +kernel
theorem dX8_solveFor_63 : decode cX8_solveFor 63 = .ok (.if_icmp .ge 44, 3) := by decide +kernel
theorem dX8_solveFor_66 : decode cX8_solveFor 66 = .ok (.aload_n 0, 1) := by decide +kernel
theorem dX8_solveFor_67 : decode cX8_solveFor 67 = .ok (.iload 5, 2) := by decide +kernel
theorem dX8_solveFor_69 : decode cX8_solveFor 69 = .ok (.iload 4, 2) := by decide +kernel
theorem dX8_solveFor_71 : decode cX8_solveFor 71 = .ok (.invokevirtual 51, 3) := by decide +kernel
theorem dX8_solveFor_74 : decode cX8_solveFor 74 = .ok (.istore 6, 2) := by decide +kernel
theorem dX8_solveFor_76 : decode cX8_solveFor 76 = .ok (.aload_n 0, 1) := by decide +kernel
theorem dX8_solveFor_77 : decode cX8_solveFor 77 = .ok (.getfield 19, 3) := by decide +kernel
theorem dX8_solveFor_80 : decode cX8_solveFor 80 = .ok (.iload 5, 2) := by decide +kernel
theorem dX8_solveFor_82 : decode cX8_solveFor 82 = .ok (.iload 6, 2) := by decide +kernel
theorem dX8_solveFor_84 : decode cX8_solveFor 84 = .ok (.iastore, 1) := by decide +kernel
theorem dX8_solveFor_85 : decode cX8_solveFor 85 = .ok (.iload 6, 2) := by decide +kernel
theorem dX8_solveFor_87 : decode cX8_solveFor 87 = .ok (.iconst (-1), 1) := by decide +kernel
theorem dX8_solveFor_88 : decode cX8_solveFor 88 = .ok (.if_icmp .eq 13, 3) := by decide +kernel
theorem dX8_solveFor_91 : decode cX8_solveFor 91 = .ok (.aload_n 0, 1) := by decide +kernel
theorem dX8_solveFor_92 : decode cX8_solveFor 92 = .ok (.iload 6, 2) := by decide +kernel
theorem dX8_solveFor_94 : decode cX8_solveFor 94 = .ok (.iload 5, 2) := by decide +kernel
theorem dX8_solveFor_96 : decode cX8_solveFor 96 = .ok (.iload 4, 2) := by decide +kernel
theorem dX8_solveFor_98 : decode cX8_solveFor 98 = .ok (.invokevirtual 54, 3) := by decide +kernel
theorem dX8_solveFor_101 : decode cX8_solveFor 101 = .ok (.iinc 5 1, 3) := by decide +kernel
theorem dX8_solveFor_104 : decode cX8_solveFor 104 = .ok (.goto (-54), 3) := by decide +kernel
theorem dX8_solveFor_107 : decode cX8_solveFor 107 = .ok (.iconst 0, 1) := by decide +kernel
theorem dX8_solveFor_108 : decode cX8_solveFor 108 = .ok (.istore 5, 2) := by decide +kernel
theorem dX8_solveFor_110 : decode cX8_solveFor 110 = .ok (.iload 5, 2) := by decide +kernel
theorem dX8_solveFor_112 : decode cX8_solveFor 112 = .ok (.iload 4, 2) := by decide +kernel
theorem dX8_solveFor_114 : decode cX8_solveFor 114 = .ok (.if_icmp .ge 33, 3) := by decide +kernel
theorem dX8_solveFor_117 : decode cX8_solveFor 117 = .ok (.aload_n 0, 1) := by decide +kernel
theorem dX8_solveFor_118 : decode cX8_solveFor 118 = .ok (.getfield 9, 3) := by decide +kernel
theorem dX8_solveFor_121 : decode cX8_solveFor 121 = .ok (.iload 5, 2) := by decide +kernel
theorem dX8_solveFor_123 : decode cX8_solveFor 123 = .ok (.laload, 1) := by decide +kernel
theorem dX8_solveFor_124 : decode cX8_solveFor 124 = .ok (.lconst 0, 1) := by decide +kernel
theorem dX8_solveFor_125 : decode cX8_solveFor 125 = .ok (.lcmp, 1) := by decide +kernel
theorem dX8_solveFor_126 : decode cX8_solveFor 126 = .ok (.ifCond .ne 15, 3) := by decide +kernel
theorem dX8_solveFor_129 : decode cX8_solveFor 129 = .ok (.aload_n 0, 1) := by decide +kernel
theorem dX8_solveFor_130 : decode cX8_solveFor 130 = .ok (.getfield 15, 3) := by decide +kernel
theorem dX8_solveFor_133 : decode cX8_solveFor 133 = .ok (.iload 5, 2) := by decide +kernel
theorem dX8_solveFor_135 : decode cX8_solveFor 135 = .ok (.iaload, 1) := by decide +kernel
theorem dX8_solveFor_136 : decode cX8_solveFor 136 = .ok (.ifCond .eq 5, 3) := by decide +kernel
theorem dX8_solveFor_139 : decode cX8_solveFor 139 = .ok (.iconst 0, 1) := by decide +kernel
theorem dX8_solveFor_140 : decode cX8_solveFor 140 = .ok (.ireturn, 1) := by decide +kernel
theorem dX8_solveFor_141 : decode cX8_solveFor 141 = .ok (.iinc 5 1, 3) := by decide +kernel
theorem dX8_solveFor_144 : decode cX8_solveFor 144 = .ok (.goto (-34), 3) := by decide +kernel
theorem dX8_solveFor_147 : decode cX8_solveFor 147 = .ok (.aload_n 0, 1) := by decide +kernel
theorem dX8_solveFor_148 : decode cX8_solveFor 148 = .ok (.aload_n 1, 1) := by decide +kernel
theorem dX8_solveFor_149 : decode cX8_solveFor 149 = .ok (.aload_n 3, 1) := by decide +kernel
theorem dX8_solveFor_150 : decode cX8_solveFor 150 = .ok (.iload 4, 2) := by decide +kernel
theorem dX8_solveFor_152 : decode cX8_solveFor 152 = .ok (.invokevirtual 58, 3) := by decide +kernel
theorem dX8_solveFor_155 : decode cX8_solveFor 155 = .ok (.iconst 1, 1) := by decide +kernel
theorem dX8_solveFor_156 : decode cX8_solveFor 156 = .ok (.ireturn, 1) := by decide +kernel
theorem dX8_state_0 : decode cX8_state 0 = .ok (.aload_n 0, 1) := by decide +kernel
theorem dX8_state_1 : decode cX8_state 1 = .ok (.getfield 9, 3) := by decide +kernel
theorem dX8_state_4 : decode cX8_state 4 = .ok (.iload_n 1, 1) := by decide +kernel
theorem dX8_state_5 : decode cX8_state 5 = .ok (.lconst 0, 1) := by decide +kernel
theorem dX8_state_6 : decode cX8_state 6 = .ok (.lastore, 1) := by decide +kernel
theorem dX8_state_7 : decode cX8_state 7 = .ok (.iconst 0, 1) := by decide +kernel
theorem dX8_state_8 : decode cX8_state 8 = .ok (.istore 5, 2) := by decide +kernel
theorem dX8_state_10 : decode cX8_state 10 = .ok (.iload 5, 2) := by decide +kernel
theorem dX8_state_12 : decode cX8_state 12 = .ok (.aload_n 2, 1) := by decide +kernel
theorem dX8_state_13 : decode cX8_state 13 = .ok (.getfield 62, 3) := by decide +kernel
theorem dX8_state_16 : decode cX8_state 16 = .ok (.if_icmp .ge 32, 3) := by decide +kernel
theorem dX8_state_19 : decode cX8_state 19 = .ok (.aload_n 0, 1) := by decide +kernel
theorem dX8_state_20 : decode cX8_state 20 = .ok (.getfield 9, 3) := by decide +kernel
theorem dX8_state_23 : decode cX8_state 23 = .ok (.iload_n 1, 1) := by decide +kernel
theorem dX8_state_24 : decode cX8_state 24 = .ok (.dup2, 1) := by decide +kernel
theorem dX8_state_25 : decode cX8_state 25 = .ok (.laload, 1) := by decide +kernel
theorem dX8_state_26 : decode cX8_state 26 = .ok (.lconst 1, 1) := by decide +kernel
theorem dX8_state_27 : decode cX8_state 27 = .ok (.aload_n 3, 1) := by decide +kernel
theorem dX8_state_28 : decode cX8_state 28 = .ok (.iload 5, 2) := by decide +kernel
theorem dX8_state_30 : decode cX8_state 30 = .ok (.iload 4, 2) := by decide +kernel
theorem dX8_state_32 : decode cX8_state 32 = .ok (.aload_n 2, 1) := by decide +kernel
theorem dX8_state_33 : decode cX8_state 33 = .ok (.getfield 46, 3) := by decide +kernel
theorem dX8_state_36 : decode cX8_state 36 = .ok (.invokevirtual 65, 3) := by decide +kernel
theorem dX8_state_39 : decode cX8_state 39 = .ok (.lshl, 1) := by decide +kernel
theorem dX8_state_40 : decode cX8_state 40 = .ok (.lxor, 1) := by decide +kernel
theorem dX8_state_41 : decode cX8_state 41 = .ok (.lastore, 1) := by decide +kernel
theorem dX8_state_42 : decode cX8_state 42 = .ok (.iinc 5 1, 3) := by decide +kernel
theorem dX8_state_45 : decode cX8_state 45 = .ok (.goto (-35), 3) := by decide +kernel
theorem dX8_state_48 : decode cX8_state 48 = .ok (.aload_n 0, 1) := by decide +kernel
theorem dX8_state_49 : decode cX8_state 49 = .ok (.getfield 15, 3) := by decide +kernel
theorem dX8_state_52 : decode cX8_state 52 = .ok (.iload_n 1, 1) := by decide +kernel
theorem dX8_state_53 : decode cX8_state 53 = .ok (.aload_n 3, 1) := by decide +kernel
theorem dX8_state_54 : decode cX8_state 54 = .ok (.iload 4, 2) := by decide +kernel
theorem dX8_state_56 : decode cX8_state 56 = .ok (.invokevirtual 71, 3) := by decide +kernel
theorem dX8_state_59 : decode cX8_state 59 = .ok (.iastore, 1) := by decide +kernel
theorem dX8_state_60 : decode cX8_state 60 = .ok (.return_, 1) := by decide +kernel
theorem dX8_chooseFor_0 : decode cX8_chooseFor 0 = .ok (.iconst 0, 1) := by decide +kernel
theorem dX8_chooseFor_1 : decode cX8_chooseFor 1 = .ok (.istore_n 3, 1) := by decide +kernel
theorem dX8_chooseFor_2 : decode cX8_chooseFor 2 = .ok (.iload_n 3, 1) := by decide +kernel
theorem dX8_chooseFor_3 : decode cX8_chooseFor 3 = .ok (.iload_n 2, 1) := by decide +kernel
theorem dX8_chooseFor_4 : decode cX8_chooseFor 4 = .ok (.if_icmp .ge 51, 3) := by decide +kernel
theorem dX8_chooseFor_7 : decode cX8_chooseFor 7 = .ok (.aload_n 0, 1) := by decide +kernel
theorem dX8_chooseFor_8 : decode cX8_chooseFor 8 = .ok (.getfield 34, 3) := by decide +kernel
theorem dX8_chooseFor_11 : decode cX8_chooseFor 11 = .ok (.iload_n 3, 1) := by decide +kernel
theorem dX8_chooseFor_12 : decode cX8_chooseFor 12 = .ok (.lushr, 1) := by decide +kernel
theorem dX8_chooseFor_13 : decode cX8_chooseFor 13 = .ok (.lconst 1, 1) := by decide +kernel
theorem dX8_chooseFor_14 : decode cX8_chooseFor 14 = .ok (.land, 1) := by decide +kernel
theorem dX8_chooseFor_15 : decode cX8_chooseFor 15 = .ok (.lconst 0, 1) := by decide +kernel
theorem dX8_chooseFor_16 : decode cX8_chooseFor 16 = .ok (.lcmp, 1) := by decide +kernel
theorem dX8_chooseFor_17 : decode cX8_chooseFor 17 = .ok (.ifCond .ne 32, 3) := by decide +kernel
theorem dX8_chooseFor_20 : decode cX8_chooseFor 20 = .ok (.aload_n 0, 1) := by decide +kernel
theorem dX8_chooseFor_21 : decode cX8_chooseFor 21 = .ok (.getfield 9, 3) := by decide +kernel
theorem dX8_chooseFor_24 : decode cX8_chooseFor 24 = .ok (.iload_n 3, 1) := by decide +kernel
theorem dX8_chooseFor_25 : decode cX8_chooseFor 25 = .ok (.laload, 1) := by decide +kernel
theorem dX8_chooseFor_26 : decode cX8_chooseFor 26 = .ok (.iload_n 1, 1) := by decide +kernel
theorem dX8_chooseFor_27 : decode cX8_chooseFor 27 = .ok (.lushr, 1) := by decide +kernel
theorem dX8_chooseFor_28 : decode cX8_chooseFor 28 = .ok (.lconst 1, 1) := by decide +kernel
theorem dX8_chooseFor_29 : decode cX8_chooseFor 29 = .ok (.land, 1) := by decide +kernel
theorem dX8_chooseFor_30 : decode cX8_chooseFor 30 = .ok (.lconst 0, 1) := by decide +kernel
theorem dX8_chooseFor_31 : decode cX8_chooseFor 31 = .ok (.lcmp, 1) := by decide +kernel
theorem dX8_chooseFor_32 : decode cX8_chooseFor 32 = .ok (.ifCond .eq 17, 3) := by decide +kernel
theorem dX8_chooseFor_35 : decode cX8_chooseFor 35 = .ok (.aload_n 0, 1) := by decide +kernel
theorem dX8_chooseFor_36 : decode cX8_chooseFor 36 = .ok (.dup, 1) := by decide +kernel
theorem dX8_chooseFor_37 : decode cX8_chooseFor 37 = .ok (.getfield 34, 3) := by decide +kernel
theorem dX8_chooseFor_40 : decode cX8_chooseFor 40 = .ok (.lconst 1, 1) := by decide +kernel
theorem dX8_chooseFor_41 : decode cX8_chooseFor 41 = .ok (.iload_n 3, 1) := by decide +kernel
theorem dX8_chooseFor_42 : decode cX8_chooseFor 42 = .ok (.lshl, 1) := by decide +kernel
theorem dX8_chooseFor_43 : decode cX8_chooseFor 43 = .ok (.lor, 1) := by decide +kernel
theorem dX8_chooseFor_44 : decode cX8_chooseFor 44 = .ok (.putfield 34, 3) := by decide +kernel
theorem dX8_chooseFor_47 : decode cX8_chooseFor 47 = .ok (.iload_n 3, 1) := by decide +kernel
theorem dX8_chooseFor_48 : decode cX8_chooseFor 48 = .ok (.ireturn, 1) := by decide +kernel
theorem dX8_chooseFor_49 : decode cX8_chooseFor 49 = .ok (.iinc 3 1, 3) := by decide +kernel
theorem dX8_chooseFor_52 : decode cX8_chooseFor 52 = .ok (.goto (-50), 3) := by decide +kernel
theorem dX8_chooseFor_55 : decode cX8_chooseFor 55 = .ok (.iconst (-1), 1) := by decide +kernel
theorem dX8_chooseFor_56 : decode cX8_chooseFor 56 = .ok (.ireturn, 1) := by decide +kernel
theorem dX8_joinTo_0 : decode cX8_joinTo 0 = .ok (.iconst 0, 1) := by decide +kernel
theorem dX8_joinTo_1 : decode cX8_joinTo 1 = .ok (.istore 4, 2) := by decide +kernel
theorem dX8_joinTo_3 : decode cX8_joinTo 3 = .ok (.iload 4, 2) := by decide +kernel
theorem dX8_joinTo_5 : decode cX8_joinTo 5 = .ok (.iload_n 3, 1) := by decide +kernel
theorem dX8_joinTo_6 : decode cX8_joinTo 6 = .ok (.if_icmp .ge 63, 3) := by decide +kernel
theorem dX8_joinTo_9 : decode cX8_joinTo 9 = .ok (.iload 4, 2) := by decide +kernel
theorem dX8_joinTo_11 : decode cX8_joinTo 11 = .ok (.iload_n 1, 1) := by decide +kernel
theorem dX8_joinTo_12 : decode cX8_joinTo 12 = .ok (.if_icmp .eq 51, 3) := by decide +kernel
theorem dX8_joinTo_15 : decode cX8_joinTo 15 = .ok (.aload_n 0, 1) := by decide +kernel
theorem dX8_joinTo_16 : decode cX8_joinTo 16 = .ok (.getfield 9, 3) := by decide +kernel
theorem dX8_joinTo_19 : decode cX8_joinTo 19 = .ok (.iload 4, 2) := by decide +kernel
theorem dX8_joinTo_21 : decode cX8_joinTo 21 = .ok (.laload, 1) := by decide +kernel
theorem dX8_joinTo_22 : decode cX8_joinTo 22 = .ok (.iload_n 2, 1) := by decide +kernel
theorem dX8_joinTo_23 : decode cX8_joinTo 23 = .ok (.lushr, 1) := by decide +kernel
theorem dX8_joinTo_24 : decode cX8_joinTo 24 = .ok (.lconst 1, 1) := by decide +kernel
theorem dX8_joinTo_25 : decode cX8_joinTo 25 = .ok (.land, 1) := by decide +kernel
theorem dX8_joinTo_26 : decode cX8_joinTo 26 = .ok (.lconst 0, 1) := by decide +kernel
theorem dX8_joinTo_27 : decode cX8_joinTo 27 = .ok (.lcmp, 1) := by decide +kernel
theorem dX8_joinTo_28 : decode cX8_joinTo 28 = .ok (.ifCond .eq 35, 3) := by decide +kernel
theorem dX8_joinTo_31 : decode cX8_joinTo 31 = .ok (.aload_n 0, 1) := by decide +kernel
theorem dX8_joinTo_32 : decode cX8_joinTo 32 = .ok (.getfield 9, 3) := by decide +kernel
theorem dX8_joinTo_35 : decode cX8_joinTo 35 = .ok (.iload 4, 2) := by decide +kernel
theorem dX8_joinTo_37 : decode cX8_joinTo 37 = .ok (.dup2, 1) := by decide +kernel
theorem dX8_joinTo_38 : decode cX8_joinTo 38 = .ok (.laload, 1) := by decide +kernel
theorem dX8_joinTo_39 : decode cX8_joinTo 39 = .ok (.aload_n 0, 1) := by decide +kernel
theorem dX8_joinTo_40 : decode cX8_joinTo 40 = .ok (.getfield 9, 3) := by decide +kernel
theorem dX8_joinTo_43 : decode cX8_joinTo 43 = .ok (.iload_n 1, 1) := by decide +kernel
theorem dX8_joinTo_44 : decode cX8_joinTo 44 = .ok (.laload, 1) := by decide +kernel
theorem dX8_joinTo_45 : decode cX8_joinTo 45 = .ok (.lxor, 1) := by decide +kernel
theorem dX8_joinTo_46 : decode cX8_joinTo 46 = .ok (.lastore, 1) := by decide +kernel
theorem dX8_joinTo_47 : decode cX8_joinTo 47 = .ok (.aload_n 0, 1) := by decide +kernel
theorem dX8_joinTo_48 : decode cX8_joinTo 48 = .ok (.getfield 15, 3) := by decide +kernel
theorem dX8_joinTo_51 : decode cX8_joinTo 51 = .ok (.iload 4, 2) := by decide +kernel
theorem dX8_joinTo_53 : decode cX8_joinTo 53 = .ok (.dup2, 1) := by decide +kernel
theorem dX8_joinTo_54 : decode cX8_joinTo 54 = .ok (.iaload, 1) := by decide +kernel
theorem dX8_joinTo_55 : decode cX8_joinTo 55 = .ok (.aload_n 0, 1) := by decide +kernel
theorem dX8_joinTo_56 : decode cX8_joinTo 56 = .ok (.getfield 15, 3) := by decide +kernel
theorem dX8_joinTo_59 : decode cX8_joinTo 59 = .ok (.iload_n 1, 1) := by decide +kernel
theorem dX8_joinTo_60 : decode cX8_joinTo 60 = .ok (.iaload, 1) := by decide +kernel
theorem dX8_joinTo_61 : decode cX8_joinTo 61 = .ok (.ixor, 1) := by decide +kernel
theorem dX8_joinTo_62 : decode cX8_joinTo 62 = .ok (.iastore, 1) := by decide +kernel
theorem dX8_joinTo_63 : decode cX8_joinTo 63 = .ok (.iinc 4 1, 3) := by decide +kernel
theorem dX8_joinTo_66 : decode cX8_joinTo 66 = .ok (.goto (-63), 3) := by decide +kernel
theorem dX8_joinTo_69 : decode cX8_joinTo 69 = .ok (.return_, 1) := by decide +kernel
theorem dX8_settle_0 : decode cX8_settle 0 = .ok (.iconst 0, 1) := by decide +kernel
theorem dX8_settle_1 : decode cX8_settle 1 = .ok (.istore 4, 2) := by decide +kernel
theorem dX8_settle_3 : decode cX8_settle 3 = .ok (.iload 4, 2) := by decide +kernel
theorem dX8_settle_5 : decode cX8_settle 5 = .ok (.aload_n 1, 1) := by decide +kernel
theorem dX8_settle_6 : decode cX8_settle 6 = .ok (.getfield 46, 3) := by decide +kernel
theorem dX8_settle_9 : decode cX8_settle 9 = .ok (.if_icmp .ge 49, 3) := by decide +kernel
theorem dX8_settle_12 : decode cX8_settle 12 = .ok (.iload 4, 2) := by decide +kernel
theorem dX8_settle_14 : decode cX8_settle 14 = .ok (.bipush 64, 2) := by decide +kernel
theorem dX8_settle_16 : decode cX8_settle 16 = .ok (.if_icmp .ge 42, 3) := by decide +kernel
theorem dX8_settle_19 : decode cX8_settle 19 = .ok (.aload_n 1, 1) := by decide +kernel
theorem dX8_settle_20 : decode cX8_settle 20 = .ok (.iload 4, 2) := by decide +kernel
theorem dX8_settle_22 : decode cX8_settle 22 = .ok (.aload_n 0, 1) := by decide +kernel
theorem dX8_settle_23 : decode cX8_settle 23 = .ok (.getfield 19, 3) := by decide +kernel
theorem dX8_settle_26 : decode cX8_settle 26 = .ok (.iload 4, 2) := by decide +kernel
theorem dX8_settle_28 : decode cX8_settle 28 = .ok (.iaload, 1) := by decide +kernel
theorem dX8_settle_29 : decode cX8_settle 29 = .ok (.iconst (-1), 1) := by decide +kernel
theorem dX8_settle_30 : decode cX8_settle 30 = .ok (.if_icmp .ne 7, 3) := by decide +kernel
theorem dX8_settle_33 : decode cX8_settle 33 = .ok (.iconst 0, 1) := by decide +kernel
theorem dX8_settle_34 : decode cX8_settle 34 = .ok (.goto 15, 3) := by decide +kernel
theorem dX8_settle_37 : decode cX8_settle 37 = .ok (.aload_n 0, 1) := by decide +kernel
theorem dX8_settle_38 : decode cX8_settle 38 = .ok (.getfield 15, 3) := by decide +kernel
theorem dX8_settle_41 : decode cX8_settle 41 = .ok (.aload_n 0, 1) := by decide +kernel
theorem dX8_settle_42 : decode cX8_settle 42 = .ok (.getfield 19, 3) := by decide +kernel
theorem dX8_settle_45 : decode cX8_settle 45 = .ok (.iload 4, 2) := by decide +kernel
theorem dX8_settle_47 : decode cX8_settle 47 = .ok (.iaload, 1) := by decide +kernel
theorem dX8_settle_48 : decode cX8_settle 48 = .ok (.iaload, 1) := by decide +kernel
theorem dX8_settle_49 : decode cX8_settle 49 = .ok (.invokevirtual 75, 3) := by decide +kernel
theorem dX8_settle_52 : decode cX8_settle 52 = .ok (.iinc 4 1, 3) := by decide +kernel
theorem dX8_settle_55 : decode cX8_settle 55 = .ok (.goto (-52), 3) := by decide +kernel
theorem dX8_settle_58 : decode cX8_settle 58 = .ok (.aload_n 1, 1) := by decide +kernel
theorem dX8_settle_59 : decode cX8_settle 59 = .ok (.getfield 79, 3) := by decide +kernel
theorem dX8_settle_62 : decode cX8_settle 62 = .ok (.invokevirtual 83, 3) := by decide +kernel
theorem dX8_settle_65 : decode cX8_settle 65 = .ok (.iconst 0, 1) := by decide +kernel
theorem dX8_settle_66 : decode cX8_settle 66 = .ok (.istore 4, 2) := by decide +kernel
theorem dX8_settle_68 : decode cX8_settle 68 = .ok (.iload 4, 2) := by decide +kernel
theorem dX8_settle_70 : decode cX8_settle 70 = .ok (.iload_n 3, 1) := by decide +kernel
theorem dX8_settle_71 : decode cX8_settle 71 = .ok (.if_icmp .ge 23, 3) := by decide +kernel
theorem dX8_settle_74 : decode cX8_settle 74 = .ok (.aload_n 1, 1) := by decide +kernel
theorem dX8_settle_75 : decode cX8_settle 75 = .ok (.getfield 79, 3) := by decide +kernel
theorem dX8_settle_78 : decode cX8_settle 78 = .ok (.aload_n 2, 1) := by decide +kernel
theorem dX8_settle_79 : decode cX8_settle 79 = .ok (.iload 4, 2) := by decide +kernel
theorem dX8_settle_81 : decode cX8_settle 81 = .ok (.invokevirtual 38, 3) := by decide +kernel
theorem dX8_settle_84 : decode cX8_settle 84 = .ok (.l2i, 1) := by decide +kernel
theorem dX8_settle_85 : decode cX8_settle 85 = .ok (.invokevirtual 88, 3) := by decide +kernel
theorem dX8_settle_88 : decode cX8_settle 88 = .ok (.iinc 4 1, 3) := by decide +kernel
theorem dX8_settle_91 : decode cX8_settle 91 = .ok (.goto (-23), 3) := by decide +kernel
theorem dX8_settle_94 : decode cX8_settle 94 = .ok (.return_, 1) := by decide +kernel
theorem dX9_init_0 : decode cX9_init 0 = .ok (.aload_n 0, 1) := by decide +kernel
theorem dX9_init_1 : decode cX9_init 1 = .ok (.invokespecial 3, 3) := by decide +kernel
theorem dX9_init_4 : decode cX9_init 4 = .ok (.aload_n 0, 1) := by decide +kernel
theorem dX9_init_5 : decode cX9_init 5 = .ok (.bipush 40, 2) := by decide +kernel
theorem dX9_init_7 : decode cX9_init 7 = .ok (.newarray .long, 2) := by decide +kernel
theorem dX9_init_9 : decode cX9_init 9 = .ok (.putfield 9, 3) := by decide +kernel
theorem dX9_init_12 : decode cX9_init 12 = .ok (.return_, 1) := by decide +kernel
theorem dX9_begin_0 : decode cX9_begin 0 = .ok (.aload_n 0, 1) := by decide +kernel
theorem dX9_begin_1 : decode cX9_begin 1 = .ok (.iconst 1, 1) := by decide +kernel
theorem dX9_begin_2 : decode cX9_begin 2 = .ok (.putfield 15, 3) := by decide +kernel
theorem dX9_begin_5 : decode cX9_begin 5 = .ok (.aload_n 0, 1) := by decide +kernel
theorem dX9_begin_6 : decode cX9_begin 6 = .ok (.iload_n 1, 1) := by decide +kernel
theorem dX9_begin_7 : decode cX9_begin 7 = .ok (.putfield 19, 3) := by decide +kernel
theorem dX9_begin_10 : decode cX9_begin 10 = .ok (.aload_n 0, 1) := by decide +kernel
theorem dX9_begin_11 : decode cX9_begin 11 = .ok (.iload_n 2, 1) := by decide +kernel
theorem dX9_begin_12 : decode cX9_begin 12 = .ok (.putfield 23, 3) := by decide +kernel
theorem dX9_begin_15 : decode cX9_begin 15 = .ok (.aload_n 0, 1) := by decide +kernel
theorem dX9_begin_16 : decode cX9_begin 16 = .ok (.getfield 9, 3) := by decide +kernel
theorem dX9_begin_19 : decode cX9_begin 19 = .ok (.lconst 0, 1) := by decide +kernel
theorem dX9_begin_20 : decode cX9_begin 20 = .ok (.invokestatic 26, 3) := by decide +kernel
theorem dX9_begin_23 : decode cX9_begin 23 = .ok (.return_, 1) := by decide +kernel
theorem dX9_numberAt_0 : decode cX9_numberAt 0 = .ok (.iload_n 1, 1) := by decide +kernel
theorem dX9_numberAt_1 : decode cX9_numberAt 1 = .ok (.ifCond .lt 21, 3) := by decide +kernel
theorem dX9_numberAt_4 : decode cX9_numberAt 4 = .ok (.iload_n 1, 1) := by decide +kernel
theorem dX9_numberAt_5 : decode cX9_numberAt 5 = .ok (.aload_n 0, 1) := by decide +kernel
theorem dX9_numberAt_6 : decode cX9_numberAt 6 = .ok (.getfield 9, 3) := by decide +kernel
theorem dX9_numberAt_9 : decode cX9_numberAt 9 = .ok (.arraylength, 1) := by decide +kernel
theorem dX9_numberAt_10 : decode cX9_numberAt 10 = .ok (.if_icmp .ge 12, 3) := by decide +kernel
theorem dX9_numberAt_13 : decode cX9_numberAt 13 = .ok (.aload_n 0, 1) := by decide +kernel
theorem dX9_numberAt_14 : decode cX9_numberAt 14 = .ok (.getfield 9, 3) := by decide +kernel
theorem dX9_numberAt_17 : decode cX9_numberAt 17 = .ok (.iload_n 1, 1) := by decide +kernel
theorem dX9_numberAt_18 : decode cX9_numberAt 18 = .ok (.laload, 1) := by decide +kernel
theorem dX9_numberAt_19 : decode cX9_numberAt 19 = .ok (.goto 6, 3) := by decide +kernel
theorem dX9_numberAt_22 : decode cX9_numberAt 22 = .ok (.ldc2_w 32, 3) := by decide +kernel
theorem dX9_numberAt_25 : decode cX9_numberAt 25 = .ok (.lreturn, 1) := by decide +kernel
theorem dX9_keep_0 : decode cX9_keep 0 = .ok (.iload_n 1, 1) := by decide +kernel
theorem dX9_keep_1 : decode cX9_keep 1 = .ok (.ifCond .lt 23, 3) := by decide +kernel
theorem dX9_keep_4 : decode cX9_keep 4 = .ok (.iload_n 1, 1) := by decide +kernel
theorem dX9_keep_5 : decode cX9_keep 5 = .ok (.aload_n 0, 1) := by decide +kernel
theorem dX9_keep_6 : decode cX9_keep 6 = .ok (.getfield 9, 3) := by decide +kernel
theorem dX9_keep_9 : decode cX9_keep 9 = .ok (.arraylength, 1) := by decide +kernel
theorem dX9_keep_10 : decode cX9_keep 10 = .ok (.if_icmp .ge 14, 3) := by decide +kernel
theorem dX9_keep_13 : decode cX9_keep 13 = .ok (.aload_n 0, 1) := by decide +kernel
theorem dX9_keep_14 : decode cX9_keep 14 = .ok (.getfield 9, 3) := by decide +kernel
theorem dX9_keep_17 : decode cX9_keep 17 = .ok (.iload_n 1, 1) := by decide +kernel
theorem dX9_keep_18 : decode cX9_keep 18 = .ok (.aload_n 0, 1) := by decide +kernel
theorem dX9_keep_19 : decode cX9_keep 19 = .ok (.lload_n 2, 1) := by decide +kernel
theorem dX9_keep_20 : decode cX9_keep 20 = .ok (.invokevirtual 34, 3) := by decide +kernel
theorem dX9_keep_23 : decode cX9_keep 23 = .ok (.lastore, 1) := by decide +kernel
theorem dX9_keep_24 : decode cX9_keep 24 = .ok (.aload_n 0, 1) := by decide +kernel
theorem dX9_keep_25 : decode cX9_keep 25 = .ok (.iload_n 1, 1) := by decide +kernel
theorem dX9_keep_26 : decode cX9_keep 26 = .ok (.invokevirtual 38, 3) := by decide +kernel
theorem dX9_keep_29 : decode cX9_keep 29 = .ok (.lreturn, 1) := by decide +kernel
theorem dX9_cut_0 : decode cX9_cut 0 = .ok (.aload_n 0, 1) := by decide +kernel
theorem dX9_cut_1 : decode cX9_cut 1 = .ok (.getfield 19, 3) := by decide +kernel
theorem dX9_cut_4 : decode cX9_cut 4 = .ok (.tableswitch 42 0 2 #[28, 33, 38], 28) := by decide +kernel
theorem dX9_cut_32 : decode cX9_cut 32 = .ok (.lload_n 1, 1) := by decide +kernel
theorem dX9_cut_33 : decode cX9_cut 33 = .ok (.l2i, 1) := by decide +kernel
theorem dX9_cut_34 : decode cX9_cut 34 = .ok (.i2b, 1) := by decide +kernel
theorem dX9_cut_35 : decode cX9_cut 35 = .ok (.i2l, 1) := by decide +kernel
theorem dX9_cut_36 : decode cX9_cut 36 = .ok (.lreturn, 1) := by decide +kernel
theorem dX9_cut_37 : decode cX9_cut 37 = .ok (.lload_n 1, 1) := by decide +kernel
theorem dX9_cut_38 : decode cX9_cut 38 = .ok (.l2i, 1) := by decide +kernel
theorem dX9_cut_39 : decode cX9_cut 39 = .ok (.i2s, 1) := by decide +kernel
theorem dX9_cut_40 : decode cX9_cut 40 = .ok (.i2l, 1) := by decide +kernel
theorem dX9_cut_41 : decode cX9_cut 41 = .ok (.lreturn, 1) := by decide +kernel
theorem dX9_cut_42 : decode cX9_cut 42 = .ok (.lload_n 1, 1) := by decide +kernel
theorem dX9_cut_43 : decode cX9_cut 43 = .ok (.l2i, 1) := by decide +kernel
theorem dX9_cut_44 : decode cX9_cut 44 = .ok (.i2l, 1) := by decide +kernel
theorem dX9_cut_45 : decode cX9_cut 45 = .ok (.lreturn, 1) := by decide +kernel
theorem dX9_cut_46 : decode cX9_cut 46 = .ok (.lload_n 1, 1) := by decide +kernel
theorem dX9_cut_47 : decode cX9_cut 47 = .ok (.lreturn, 1) := by decide +kernel
theorem dX9_allWithin_0 : decode cX9_allWithin 0 = .ok (.iconst 0, 1) := by decide +kernel
theorem dX9_allWithin_1 : decode cX9_allWithin 1 = .ok (.istore_n 3, 1) := by decide +kernel
theorem dX9_allWithin_2 : decode cX9_allWithin 2 = .ok (.iload_n 3, 1) := by decide +kernel
theorem dX9_allWithin_3 : decode cX9_allWithin 3 = .ok (.aload_n 0, 1) := by decide +kernel
theorem dX9_allWithin_4 : decode cX9_allWithin 4 = .ok (.getfield 23, 3) := by decide +kernel
theorem dX9_allWithin_7 : decode cX9_allWithin 7 = .ok (.if_icmp .ge 33, 3) := by decide +kernel
theorem dX9_allWithin_10 : decode cX9_allWithin 10 = .ok (.aload_n 0, 1) := by decide +kernel
theorem dX9_allWithin_11 : decode cX9_allWithin 11 = .ok (.iload_n 3, 1) := by decide +kernel
theorem dX9_allWithin_12 : decode cX9_allWithin 12 = .ok (.invokevirtual 38, 3) := by decide +kernel
theorem dX9_allWithin_15 : decode cX9_allWithin 15 = .ok (.iload_n 1, 1) := by decide +kernel
theorem dX9_allWithin_16 : decode cX9_allWithin 16 = .ok (.i2l, 1) := by decide +kernel
theorem dX9_allWithin_17 : decode cX9_allWithin 17 = .ok (.lcmp, 1) := by decide +kernel
theorem dX9_allWithin_18 : decode cX9_allWithin 18 = .ok (.ifCond .lt 14, 3) := by decide +kernel
theorem dX9_allWithin_21 : decode cX9_allWithin 21 = .ok (.aload_n 0, 1) := by decide +kernel
theorem dX9_allWithin_22 : decode cX9_allWithin 22 = .ok (.iload_n 3, 1) := by decide +kernel
theorem dX9_allWithin_23 : decode cX9_allWithin 23 = .ok (.invokevirtual 38, 3) := by decide +kernel
theorem dX9_allWithin_26 : decode cX9_allWithin 26 = .ok (.iload_n 2, 1) := by decide +kernel
theorem dX9_allWithin_27 : decode cX9_allWithin 27 = .ok (.i2l, 1) := by decide +kernel
theorem dX9_allWithin_28 : decode cX9_allWithin 28 = .ok (.lcmp, 1) := by decide +kernel
theorem dX9_allWithin_29 : decode cX9_allWithin 29 = .ok (.ifCond .le 5, 3) := by decide +kernel
theorem dX9_allWithin_32 : decode cX9_allWithin 32 = .ok (.iconst 0, 1) := by decide +kernel
theorem dX9_allWithin_33 : decode cX9_allWithin 33 = .ok (.ireturn, 1) := by decide +kernel
theorem dX9_allWithin_34 : decode cX9_allWithin 34 = .ok (.iinc 3 1, 3) := by decide +kernel
theorem dX9_allWithin_37 : decode cX9_allWithin 37 = .ok (.goto (-35), 3) := by decide +kernel
theorem dX9_allWithin_40 : decode cX9_allWithin 40 = .ok (.iconst 1, 1) := by decide +kernel
theorem dX9_allWithin_41 : decode cX9_allWithin 41 = .ok (.ireturn, 1) := by decide +kernel
theorem dX9_hasTwoAlike_0 : decode cX9_hasTwoAlike 0 = .ok (.iconst 0, 1) := by decide +kernel
theorem dX9_hasTwoAlike_1 : decode cX9_hasTwoAlike 1 = .ok (.istore_n 1, 1) := by decide +kernel
theorem dX9_hasTwoAlike_2 : decode cX9_hasTwoAlike 2 = .ok (.iload_n 1, 1) := by decide +kernel
theorem dX9_hasTwoAlike_3 : decode cX9_hasTwoAlike 3 = .ok (.aload_n 0, 1) := by decide +kernel
theorem dX9_hasTwoAlike_4 : decode cX9_hasTwoAlike 4 = .ok (.getfield 23, 3) := by decide +kernel
theorem dX9_hasTwoAlike_7 : decode cX9_hasTwoAlike 7 = .ok (.if_icmp .ge 38, 3) := by decide +kernel
theorem dX9_hasTwoAlike_10 : decode cX9_hasTwoAlike 10 = .ok (.iconst 0, 1) := by decide +kernel
theorem dX9_hasTwoAlike_11 : decode cX9_hasTwoAlike 11 = .ok (.istore_n 2, 1) := by decide +kernel
theorem dX9_hasTwoAlike_12 : decode cX9_hasTwoAlike 12 = .ok (.iload_n 2, 1) := by decide +kernel
theorem dX9_hasTwoAlike_13 : decode cX9_hasTwoAlike 13 = .ok (.iload_n 1, 1) := by decide +kernel
theorem dX9_hasTwoAlike_14 : decode cX9_hasTwoAlike 14 = .ok (.if_icmp .ge 25, 3) := by decide +kernel
theorem dX9_hasTwoAlike_17 : decode cX9_hasTwoAlike 17 = .ok (.aload_n 0, 1) := by decide +kernel
theorem dX9_hasTwoAlike_18 : decode cX9_hasTwoAlike 18 = .ok (.iload_n 1, 1) := by decide +kernel
theorem dX9_hasTwoAlike_19 : decode cX9_hasTwoAlike 19 = .ok (.invokevirtual 38, 3) := by decide +kernel
theorem dX9_hasTwoAlike_22 : decode cX9_hasTwoAlike 22 = .ok (.aload_n 0, 1) := by decide +kernel
theorem dX9_hasTwoAlike_23 : decode cX9_hasTwoAlike 23 = .ok (.iload_n 2, 1) := by decide +kernel
theorem dX9_hasTwoAlike_24 : decode cX9_hasTwoAlike 24 = .ok (.invokevirtual 38, 3) := by decide +kernel
theorem dX9_hasTwoAlike_27 : decode cX9_hasTwoAlike 27 = .ok (.lcmp, 1) := by decide +kernel
theorem dX9_hasTwoAlike_28 : decode cX9_hasTwoAlike 28 = .ok (.ifCond .ne 5, 3) := by decide +kernel
theorem dX9_hasTwoAlike_31 : decode cX9_hasTwoAlike 31 = .ok (.iconst 1, 1) := by decide +kernel
theorem dX9_hasTwoAlike_32 : decode cX9_hasTwoAlike 32 = .ok (.ireturn, 1) := by decide +kernel
theorem dX9_hasTwoAlike_33 : decode cX9_hasTwoAlike 33 = .ok (.iinc 2 1, 3) := by decide +kernel
theorem dX9_hasTwoAlike_36 : decode cX9_hasTwoAlike 36 = .ok (.goto (-24), 3) := by decide +kernel
theorem dX9_hasTwoAlike_39 : decode cX9_hasTwoAlike 39 = .ok (.iinc 1 1, 3) := by decide +kernel
theorem dX9_hasTwoAlike_42 : decode cX9_hasTwoAlike 42 = .ok (.goto (-40), 3) := by decide +kernel
theorem dX9_hasTwoAlike_45 : decode cX9_hasTwoAlike 45 = .ok (.iconst 0, 1) := by decide +kernel
theorem dX9_hasTwoAlike_46 : decode cX9_hasTwoAlike 46 = .ok (.ireturn, 1) := by decide +kernel
theorem dX10_init_0 : decode cX10_init 0 = .ok (.aload_n 0, 1) := by decide +kernel
theorem dX10_init_1 : decode cX10_init 1 = .ok (.invokespecial 1, 3) := by decide +kernel
theorem dX10_init_4 : decode cX10_init 4 = .ok (.aload_n 0, 1) := by decide +kernel
theorem dX10_init_5 : decode cX10_init 5 = .ok (.iconst (-1), 1) := by decide +kernel
theorem dX10_init_6 : decode cX10_init 6 = .ok (.putfield 9, 3) := by decide +kernel
theorem dX10_init_9 : decode cX10_init 9 = .ok (.aload_n 0, 1) := by decide +kernel
theorem dX10_init_10 : decode cX10_init 10 = .ok (.new 13, 3) := by decide +kernel
theorem dX10_init_13 : decode cX10_init 13 = .ok (.dup, 1) := by decide +kernel
theorem dX10_init_14 : decode cX10_init 14 = .ok (.invokespecial 15, 3) := by decide +kernel
theorem dX10_init_17 : decode cX10_init 17 = .ok (.putfield 16, 3) := by decide +kernel
theorem dX10_init_20 : decode cX10_init 20 = .ok (.aload_n 0, 1) := by decide +kernel
theorem dX10_init_21 : decode cX10_init 21 = .ok (.getfield 16, 3) := by decide +kernel
theorem dX10_init_24 : decode cX10_init 24 = .ok (.getfield 20, 3) := by decide +kernel
theorem dX10_init_27 : decode cX10_init 27 = .ok (.invokevirtual 24, 3) := by decide +kernel
theorem dX10_init_30 : decode cX10_init 30 = .ok (.aload_n 0, 1) := by decide +kernel
theorem dX10_init_31 : decode cX10_init 31 = .ok (.getfield 16, 3) := by decide +kernel
theorem dX10_init_34 : decode cX10_init 34 = .ok (.getfield 20, 3) := by decide +kernel
theorem dX10_init_37 : decode cX10_init 37 = .ok (.invokevirtual 29, 3) := by decide +kernel
theorem dX10_init_40 : decode cX10_init 40 = .ok (.aload_n 0, 1) := by decide +kernel
theorem dX10_init_41 : decode cX10_init 41 = .ok (.iconst 3, 1) := by decide +kernel
theorem dX10_init_42 : decode cX10_init 42 = .ok (.anewarray 13, 3) := by decide +kernel
theorem dX10_init_45 : decode cX10_init 45 = .ok (.putfield 32, 3) := by decide +kernel
theorem dX10_init_48 : decode cX10_init 48 = .ok (.iconst 0, 1) := by decide +kernel
theorem dX10_init_49 : decode cX10_init 49 = .ok (.istore_n 1, 1) := by decide +kernel
theorem dX10_init_50 : decode cX10_init 50 = .ok (.iload_n 1, 1) := by decide +kernel
theorem dX10_init_51 : decode cX10_init 51 = .ok (.iconst 3, 1) := by decide +kernel
theorem dX10_init_52 : decode cX10_init 52 = .ok (.if_icmp .ge 22, 3) := by decide +kernel
theorem dX10_init_55 : decode cX10_init 55 = .ok (.aload_n 0, 1) := by decide +kernel
theorem dX10_init_56 : decode cX10_init 56 = .ok (.getfield 32, 3) := by decide +kernel
theorem dX10_init_59 : decode cX10_init 59 = .ok (.iload_n 1, 1) := by decide +kernel
theorem dX10_init_60 : decode cX10_init 60 = .ok (.new 13, 3) := by decide +kernel
theorem dX10_init_63 : decode cX10_init 63 = .ok (.dup, 1) := by decide +kernel
theorem dX10_init_64 : decode cX10_init 64 = .ok (.invokespecial 15, 3) := by decide +kernel
theorem dX10_init_67 : decode cX10_init 67 = .ok (.aastore, 1) := by decide +kernel
theorem dX10_init_68 : decode cX10_init 68 = .ok (.iinc 1 1, 3) := by decide +kernel
theorem dX10_init_71 : decode cX10_init 71 = .ok (.goto (-21), 3) := by decide +kernel
theorem dX10_init_74 : decode cX10_init 74 = .ok (.aload_n 0, 1) := by decide +kernel
theorem dX10_init_75 : decode cX10_init 75 = .ok (.iconst 4, 1) := by decide +kernel
theorem dX10_init_76 : decode cX10_init 76 = .ok (.anewarray 36, 3) := by decide +kernel
theorem dX10_init_79 : decode cX10_init 79 = .ok (.putfield 38, 3) := by decide +kernel
theorem dX10_init_82 : decode cX10_init 82 = .ok (.iconst 0, 1) := by decide +kernel
theorem dX10_init_83 : decode cX10_init 83 = .ok (.istore_n 1, 1) := by decide +kernel
theorem dX10_init_84 : decode cX10_init 84 = .ok (.iload_n 1, 1) := by decide +kernel
theorem dX10_init_85 : decode cX10_init 85 = .ok (.iconst 4, 1) := by decide +kernel
theorem dX10_init_86 : decode cX10_init 86 = .ok (.if_icmp .ge 22, 3) := by decide +kernel
theorem dX10_init_89 : decode cX10_init 89 = .ok (.aload_n 0, 1) := by decide +kernel
theorem dX10_init_90 : decode cX10_init 90 = .ok (.getfield 38, 3) := by decide +kernel
theorem dX10_init_93 : decode cX10_init 93 = .ok (.iload_n 1, 1) := by decide +kernel
theorem dX10_init_94 : decode cX10_init 94 = .ok (.new 36, 3) := by decide +kernel
theorem dX10_init_97 : decode cX10_init 97 = .ok (.dup, 1) := by decide +kernel
theorem dX10_init_98 : decode cX10_init 98 = .ok (.invokespecial 42, 3) := by decide +kernel
theorem dX10_init_101 : decode cX10_init 101 = .ok (.aastore, 1) := by decide +kernel
theorem dX10_init_102 : decode cX10_init 102 = .ok (.iinc 1 1, 3) := by decide +kernel
theorem dX10_init_105 : decode cX10_init 105 = .ok (.goto (-21), 3) := by decide +kernel
theorem dX10_init_108 : decode cX10_init 108 = .ok (.aload_n 0, 1) := by decide +kernel
theorem dX10_init_109 : decode cX10_init 109 = .ok (.new 43, 3) := by decide +kernel
theorem dX10_init_112 : decode cX10_init 112 = .ok (.dup, 1) := by decide +kernel
theorem dX10_init_113 : decode cX10_init 113 = .ok (.invokespecial 45, 3) := by decide +kernel
theorem dX10_init_116 : decode cX10_init 116 = .ok (.putfield 46, 3) := by decide +kernel
theorem dX10_init_119 : decode cX10_init 119 = .ok (.aload_n 0, 1) := by decide +kernel
theorem dX10_init_120 : decode cX10_init 120 = .ok (.new 50, 3) := by decide +kernel
theorem dX10_init_123 : decode cX10_init 123 = .ok (.dup, 1) := by decide +kernel
theorem dX10_init_124 : decode cX10_init 124 = .ok (.invokespecial 52, 3) := by decide +kernel
theorem dX10_init_127 : decode cX10_init 127 = .ok (.putfield 53, 3) := by decide +kernel
theorem dX10_init_130 : decode cX10_init 130 = .ok (.aload_n 0, 1) := by decide +kernel
theorem dX10_init_131 : decode cX10_init 131 = .ok (.new 57, 3) := by decide +kernel
theorem dX10_init_134 : decode cX10_init 134 = .ok (.dup, 1) := by decide +kernel
theorem dX10_init_135 : decode cX10_init 135 = .ok (.invokespecial 59, 3) := by decide +kernel
theorem dX10_init_138 : decode cX10_init 138 = .ok (.putfield 60, 3) := by decide +kernel
theorem dX10_init_141 : decode cX10_init 141 = .ok (.aload_n 0, 1) := by decide +kernel
theorem dX10_init_142 : decode cX10_init 142 = .ok (.new 64, 3) := by decide +kernel
theorem dX10_init_145 : decode cX10_init 145 = .ok (.dup, 1) := by decide +kernel
theorem dX10_init_146 : decode cX10_init 146 = .ok (.invokespecial 66, 3) := by decide +kernel
theorem dX10_init_149 : decode cX10_init 149 = .ok (.putfield 67, 3) := by decide +kernel
theorem dX10_init_152 : decode cX10_init 152 = .ok (.aload_n 0, 1) := by decide +kernel
theorem dX10_init_153 : decode cX10_init 153 = .ok (.new 71, 3) := by decide +kernel
theorem dX10_init_156 : decode cX10_init 156 = .ok (.dup, 1) := by decide +kernel
theorem dX10_init_157 : decode cX10_init 157 = .ok (.invokespecial 73, 3) := by decide +kernel
theorem dX10_init_160 : decode cX10_init 160 = .ok (.putfield 74, 3) := by decide +kernel
theorem dX10_init_163 : decode cX10_init 163 = .ok (.return_, 1) := by decide +kernel
theorem dX10_feed_0 : decode cX10_feed 0 = .ok (.aload_n 0, 1) := by decide +kernel
theorem dX10_feed_1 : decode cX10_feed 1 = .ok (.getfield 46, 3) := by decide +kernel
theorem dX10_feed_4 : decode cX10_feed 4 = .ok (.getfield 78, 3) := by decide +kernel
theorem dX10_feed_7 : decode cX10_feed 7 = .ok (.bipush 20, 2) := by decide +kernel
theorem dX10_feed_9 : decode cX10_feed 9 = .ok (.iadd, 1) := by decide +kernel
theorem dX10_feed_10 : decode cX10_feed 10 = .ok (.sipush 600, 3) := by decide +kernel
theorem dX10_feed_13 : decode cX10_feed 13 = .ok (.if_icmp .le 5, 3) := by decide +kernel
theorem dX10_feed_16 : decode cX10_feed 16 = .ok (.iconst (-1), 1) := by decide +kernel
theorem dX10_feed_17 : decode cX10_feed 17 = .ok (.ireturn, 1) := by decide +kernel
theorem dX10_feed_18 : decode cX10_feed 18 = .ok (.aload_n 0, 1) := by decide +kernel
theorem dX10_feed_19 : decode cX10_feed 19 = .ok (.getfield 46, 3) := by decide +kernel
theorem dX10_feed_22 : decode cX10_feed 22 = .ok (.iload_n 1, 1) := by decide +kernel
theorem dX10_feed_23 : decode cX10_feed 23 = .ok (.invokevirtual 81, 3) := by decide +kernel
theorem dX10_feed_26 : decode cX10_feed 26 = .ok (.aload_n 0, 1) := by decide +kernel
theorem dX10_feed_27 : decode cX10_feed 27 = .ok (.getfield 46, 3) := by decide +kernel
theorem dX10_feed_30 : decode cX10_feed 30 = .ok (.iload_n 2, 1) := by decide +kernel
theorem dX10_feed_31 : decode cX10_feed 31 = .ok (.invokevirtual 81, 3) := by decide +kernel
theorem dX10_feed_34 : decode cX10_feed 34 = .ok (.aload_n 0, 1) := by decide +kernel
theorem dX10_feed_35 : decode cX10_feed 35 = .ok (.getfield 46, 3) := by decide +kernel
theorem dX10_feed_38 : decode cX10_feed 38 = .ok (.iload_n 3, 1) := by decide +kernel
theorem dX10_feed_39 : decode cX10_feed 39 = .ok (.invokevirtual 81, 3) := by decide +kernel
theorem dX10_feed_42 : decode cX10_feed 42 = .ok (.aload_n 0, 1) := by decide +kernel
theorem dX10_feed_43 : decode cX10_feed 43 = .ok (.getfield 46, 3) := by decide +kernel
theorem dX10_feed_46 : decode cX10_feed 46 = .ok (.iload 4, 2) := by decide +kernel
theorem dX10_feed_48 : decode cX10_feed 48 = .ok (.invokevirtual 81, 3) := by decide +kernel
theorem dX10_feed_51 : decode cX10_feed 51 = .ok (.aload_n 0, 1) := by decide +kernel
theorem dX10_feed_52 : decode cX10_feed 52 = .ok (.getfield 46, 3) := by decide +kernel
theorem dX10_feed_55 : decode cX10_feed 55 = .ok (.iload 5, 2) := by decide +kernel
theorem dX10_feed_57 : decode cX10_feed 57 = .ok (.invokevirtual 81, 3) := by decide +kernel
theorem dX10_feed_60 : decode cX10_feed 60 = .ok (.aload_n 0, 1) := by decide +kernel
theorem dX10_feed_61 : decode cX10_feed 61 = .ok (.getfield 46, 3) := by decide +kernel
theorem dX10_feed_64 : decode cX10_feed 64 = .ok (.getfield 78, 3) := by decide +kernel
theorem dX10_feed_67 : decode cX10_feed 67 = .ok (.ireturn, 1) := by decide +kernel
theorem dX10_rules_0 : decode cX10_rules 0 = .ok (.iload_n 1, 1) := by decide +kernel
theorem dX10_rules_1 : decode cX10_rules 1 = .ok (.ifCond .lt 14, 3) := by decide +kernel
theorem dX10_rules_4 : decode cX10_rules 4 = .ok (.iload_n 1, 1) := by decide +kernel
theorem dX10_rules_5 : decode cX10_rules 5 = .ok (.aload_n 0, 1) := by decide +kernel
theorem dX10_rules_6 : decode cX10_rules 6 = .ok (.getfield 46, 3) := by decide +kernel
theorem dX10_rules_9 : decode cX10_rules 9 = .ok (.getfield 78, 3) := by decide +kernel
theorem dX10_rules_12 : decode cX10_rules 12 = .ok (.if_icmp .le 13, 3) := by decide +kernel
theorem dX10_rules_15 : decode cX10_rules 15 = .ok (.new 85, 3) := by decide +kernel
theorem dX10_rules_18 : decode cX10_rules 18 = .ok (.dup, 1) := by decide +kernel
theorem dX10_rules_19 : decode cX10_rules 19 = .ok (.ldc 87, 2) := by decide +kernel
theorem dX10_rules_21 : decode cX10_rules 21 = .ok (.invokespecial 89, 3) := by decide +kernel
theorem dX10_rules_24 : decode cX10_rules 24 = .ok (.athrow, 1) := by decide +kernel
theorem dX10_rules_25 : decode cX10_rules 25 = .ok (.aload_n 0, 1) := by decide +kernel
theorem dX10_rules_26 : decode cX10_rules 26 = .ok (.getfield 46, 3) := by decide +kernel
theorem dX10_rules_29 : decode cX10_rules 29 = .ok (.iload_n 1, 1) := by decide +kernel
theorem dX10_rules_30 : decode cX10_rules 30 = .ok (.invokevirtual 92, 3) := by decide +kernel
theorem dX10_rules_33 : decode cX10_rules 33 = .ok (.istore_n 2, 1) := by decide +kernel
theorem dX10_rules_34 : decode cX10_rules 34 = .ok (.aload_n 0, 1) := by decide +kernel
theorem dX10_rules_35 : decode cX10_rules 35 = .ok (.getfield 46, 3) := by decide +kernel
theorem dX10_rules_38 : decode cX10_rules 38 = .ok (.iconst 0, 1) := by decide +kernel
theorem dX10_rules_39 : decode cX10_rules 39 = .ok (.putfield 78, 3) := by decide +kernel
theorem dX10_rules_42 : decode cX10_rules 42 = .ok (.aload_n 0, 1) := by decide +kernel
theorem dX10_rules_43 : decode cX10_rules 43 = .ok (.aload_n 0, 1) := by decide +kernel
theorem dX10_rules_44 : decode cX10_rules 44 = .ok (.getfield 46, 3) := by decide +kernel
theorem dX10_rules_47 : decode cX10_rules 47 = .ok (.getfield 96, 3) := by decide +kernel
theorem dX10_rules_50 : decode cX10_rules 50 = .ok (.putfield 99, 3) := by decide +kernel
theorem dX10_rules_53 : decode cX10_rules 53 = .ok (.aload_n 0, 1) := by decide +kernel
theorem dX10_rules_54 : decode cX10_rules 54 = .ok (.aload_n 0, 1) := by decide +kernel
theorem dX10_rules_55 : decode cX10_rules 55 = .ok (.getfield 46, 3) := by decide +kernel
theorem dX10_rules_58 : decode cX10_rules 58 = .ok (.getfield 102, 3) := by decide +kernel
theorem dX10_rules_61 : decode cX10_rules 61 = .ok (.putfield 9, 3) := by decide +kernel
theorem dX10_rules_64 : decode cX10_rules 64 = .ok (.iload_n 2, 1) := by decide +kernel
theorem dX10_rules_65 : decode cX10_rules 65 = .ok (.ifCond .ne 11, 3) := by decide +kernel
theorem dX10_rules_68 : decode cX10_rules 68 = .ok (.bipush (-10), 2) := by decide +kernel
theorem dX10_rules_70 : decode cX10_rules 70 = .ok (.aload_n 0, 1) := by decide +kernel
theorem dX10_rules_71 : decode cX10_rules 71 = .ok (.getfield 99, 3) := by decide +kernel
theorem dX10_rules_74 : decode cX10_rules 74 = .ok (.isub, 1) := by decide +kernel
theorem dX10_rules_75 : decode cX10_rules 75 = .ok (.ireturn, 1) := by decide +kernel
theorem dX10_rules_76 : decode cX10_rules 76 = .ok (.aload_n 0, 1) := by decide +kernel
theorem dX10_rules_77 : decode cX10_rules 77 = .ok (.getfield 16, 3) := by decide +kernel
theorem dX10_rules_80 : decode cX10_rules 80 = .ok (.getfield 20, 3) := by decide +kernel
theorem dX10_rules_83 : decode cX10_rules 83 = .ok (.aload_n 0, 1) := by decide +kernel
theorem dX10_rules_84 : decode cX10_rules 84 = .ok (.getfield 46, 3) := by decide +kernel
theorem dX10_rules_87 : decode cX10_rules 87 = .ok (.getfield 103, 3) := by decide +kernel
theorem dX10_rules_90 : decode cX10_rules 90 = .ok (.invokevirtual 106, 3) := by decide +kernel
theorem dX10_rules_93 : decode cX10_rules 93 = .ok (.aload_n 0, 1) := by decide +kernel
theorem dX10_rules_94 : decode cX10_rules 94 = .ok (.getfield 16, 3) := by decide +kernel
theorem dX10_rules_97 : decode cX10_rules 97 = .ok (.invokevirtual 110, 3) := by decide +kernel
theorem dX10_rules_100 : decode cX10_rules 100 = .ok (.aload_n 0, 1) := by decide +kernel
theorem dX10_rules_101 : decode cX10_rules 101 = .ok (.getfield 16, 3) := by decide +kernel
theorem dX10_rules_104 : decode cX10_rules 104 = .ok (.getfield 20, 3) := by decide +kernel
theorem dX10_rules_107 : decode cX10_rules 107 = .ok (.getfield 113, 3) := by decide +kernel
theorem dX10_rules_110 : decode cX10_rules 110 = .ok (.ireturn, 1) := by decide +kernel
theorem dX10_fault_0 : decode cX10_fault 0 = .ok (.iload_n 1, 1) := by decide +kernel
theorem dX10_fault_1 : decode cX10_fault 1 = .ok (.lookupswitch 37 #[(0, 27), (1, 32)], 27) := by decide +kernel
theorem dX10_fault_28 : decode cX10_fault 28 = .ok (.aload_n 0, 1) := by decide +kernel
theorem dX10_fault_29 : decode cX10_fault 29 = .ok (.getfield 99, 3) := by decide +kernel
theorem dX10_fault_32 : decode cX10_fault 32 = .ok (.ireturn, 1) := by decide +kernel
theorem dX10_fault_33 : decode cX10_fault 33 = .ok (.aload_n 0, 1) := by decide +kernel
theorem dX10_fault_34 : decode cX10_fault 34 = .ok (.getfield 9, 3) := by decide +kernel
theorem dX10_fault_37 : decode cX10_fault 37 = .ok (.ireturn, 1) := by decide +kernel
theorem dX10_fault_38 : decode cX10_fault 38 = .ok (.iconst (-1), 1) := by decide +kernel
theorem dX10_fault_39 : decode cX10_fault 39 = .ok (.ireturn, 1) := by decide +kernel
theorem dX10_value_0 : decode cX10_value 0 = .ok (.aload_n 0, 1) := by decide +kernel
theorem dX10_value_1 : decode cX10_value 1 = .ok (.iload_n 1, 1) := by decide +kernel
theorem dX10_value_2 : decode cX10_value 2 = .ok (.iload_n 3, 1) := by decide +kernel
theorem dX10_value_3 : decode cX10_value 3 = .ok (.invokevirtual 116, 3) := by decide +kernel
theorem dX10_value_6 : decode cX10_value 6 = .ok (.aload_n 0, 1) := by decide +kernel
theorem dX10_value_7 : decode cX10_value 7 = .ok (.getfield 16, 3) := by decide +kernel
theorem dX10_value_10 : decode cX10_value 10 = .ok (.getfield 20, 3) := by decide +kernel
theorem dX10_value_13 : decode cX10_value 13 = .ok (.iload_n 1, 1) := by decide +kernel
theorem dX10_value_14 : decode cX10_value 14 = .ok (.iload_n 2, 1) := by decide +kernel
theorem dX10_value_15 : decode cX10_value 15 = .ok (.iload_n 3, 1) := by decide +kernel
theorem dX10_value_16 : decode cX10_value 16 = .ok (.invokevirtual 120, 3) := by decide +kernel
theorem dX10_value_19 : decode cX10_value 19 = .ok (.ireturn, 1) := by decide +kernel
theorem dX10_place_0 : decode cX10_place 0 = .ok (.aload_n 0, 1) := by decide +kernel
theorem dX10_place_1 : decode cX10_place 1 = .ok (.iload_n 1, 1) := by decide +kernel
theorem dX10_place_2 : decode cX10_place 2 = .ok (.iload_n 3, 1) := by decide +kernel
theorem dX10_place_3 : decode cX10_place 3 = .ok (.invokevirtual 116, 3) := by decide +kernel
theorem dX10_place_6 : decode cX10_place 6 = .ok (.aload_n 0, 1) := by decide +kernel
theorem dX10_place_7 : decode cX10_place 7 = .ok (.getfield 16, 3) := by decide +kernel
theorem dX10_place_10 : decode cX10_place 10 = .ok (.getfield 20, 3) := by decide +kernel
theorem dX10_place_13 : decode cX10_place 13 = .ok (.iload_n 1, 1) := by decide +kernel
theorem dX10_place_14 : decode cX10_place 14 = .ok (.iload_n 2, 1) := by decide +kernel
theorem dX10_place_15 : decode cX10_place 15 = .ok (.iload_n 3, 1) := by decide +kernel
theorem dX10_place_16 : decode cX10_place 16 = .ok (.invokevirtual 124, 3) := by decide +kernel
theorem dX10_place_19 : decode cX10_place 19 = .ok (.ireturn, 1) := by decide +kernel
theorem dX10_needMarkAndSize_0 : decode cX10_needMarkAndSize 0 = .ok (.iload_n 1, 1) := by decide +kernel
theorem dX10_needMarkAndSize_1 : decode cX10_needMarkAndSize 1 = .ok (.ifCond .lt 17, 3) := by decide +kernel
theorem dX10_needMarkAndSize_4 : decode cX10_needMarkAndSize 4 = .ok (.iload_n 1, 1) := by decide +kernel
theorem dX10_needMarkAndSize_5 : decode cX10_needMarkAndSize 5 = .ok (.aload_n 0, 1) := by decide +kernel
theorem dX10_needMarkAndSize_6 : decode cX10_needMarkAndSize 6 = .ok (.getfield 16, 3) := by decide +kernel
theorem dX10_needMarkAndSize_9 : decode cX10_needMarkAndSize 9 = .ok (.getfield 20, 3) := by decide +kernel
theorem dX10_needMarkAndSize_12 : decode cX10_needMarkAndSize 12 = .ok (.getfield 127, 3) := by decide +kernel
theorem dX10_needMarkAndSize_15 : decode cX10_needMarkAndSize 15 = .ok (.if_icmp .lt 13, 3) := by decide +kernel
theorem dX10_needMarkAndSize_18 : decode cX10_needMarkAndSize 18 = .ok (.new 130, 3) := by decide +kernel
theorem dX10_needMarkAndSize_21 : decode cX10_needMarkAndSize 21 = .ok (.dup, 1) := by decide +kernel
theorem dX10_needMarkAndSize_22 : decode cX10_needMarkAndSize 22 = .ok (.ldc 132, 2) := by decide +kernel
theorem dX10_needMarkAndSize_24 : decode cX10_needMarkAndSize 24 = .ok (.invokespecial 134, 3) := by decide +kernel
theorem dX10_needMarkAndSize_27 : decode cX10_needMarkAndSize 27 = .ok (.athrow, 1) := by decide +kernel
theorem dX10_needMarkAndSize_28 : decode cX10_needMarkAndSize 28 = .ok (.iload_n 2, 1) := by decide +kernel
theorem dX10_needMarkAndSize_29 : decode cX10_needMarkAndSize 29 = .ok (.iconst 1, 1) := by decide +kernel
theorem dX10_needMarkAndSize_30 : decode cX10_needMarkAndSize 30 = .ok (.if_icmp .lt 10, 3) := by decide +kernel
theorem dX10_needMarkAndSize_33 : decode cX10_needMarkAndSize 33 = .ok (.iload_n 2, 1) := by decide +kernel
theorem dX10_needMarkAndSize_34 : decode cX10_needMarkAndSize 34 = .ok (.sipush 128, 3) := by decide +kernel
theorem dX10_needMarkAndSize_37 : decode cX10_needMarkAndSize 37 = .ok (.if_icmp .le 13, 3) := by decide +kernel
theorem dX10_needMarkAndSize_40 : decode cX10_needMarkAndSize 40 = .ok (.new 85, 3) := by decide +kernel
theorem dX10_needMarkAndSize_43 : decode cX10_needMarkAndSize 43 = .ok (.dup, 1) := by decide +kernel
theorem dX10_needMarkAndSize_44 : decode cX10_needMarkAndSize 44 = .ok (.ldc 135, 2) := by decide +kernel
theorem dX10_needMarkAndSize_46 : decode cX10_needMarkAndSize 46 = .ok (.invokespecial 89, 3) := by decide +kernel
theorem dX10_needMarkAndSize_49 : decode cX10_needMarkAndSize 49 = .ok (.athrow, 1) := by decide +kernel
theorem dX10_needMarkAndSize_50 : decode cX10_needMarkAndSize 50 = .ok (.return_, 1) := by decide +kernel
theorem dX10_tag_0 : decode cX10_tag 0 = .ok (.aload_n 0, 1) := by decide +kernel
theorem dX10_tag_1 : decode cX10_tag 1 = .ok (.iload_n 1, 1) := by decide +kernel
theorem dX10_tag_2 : decode cX10_tag 2 = .ok (.i2l, 1) := by decide +kernel
theorem dX10_tag_3 : decode cX10_tag 3 = .ok (.invokevirtual 137, 3) := by decide +kernel
theorem dX10_tag_6 : decode cX10_tag 6 = .ok (.aload_n 0, 1) := by decide +kernel
theorem dX10_tag_7 : decode cX10_tag 7 = .ok (.getfield 16, 3) := by decide +kernel
theorem dX10_tag_10 : decode cX10_tag 10 = .ok (.getfield 20, 3) := by decide +kernel
theorem dX10_tag_13 : decode cX10_tag 13 = .ok (.iload_n 1, 1) := by decide +kernel
theorem dX10_tag_14 : decode cX10_tag 14 = .ok (.invokevirtual 141, 3) := by decide +kernel
theorem dX10_tag_17 : decode cX10_tag 17 = .ok (.ireturn, 1) := by decide +kernel
theorem dX10_make_0 : decode cX10_make 0 = .ok (.iload_n 1, 1) := by decide +kernel
theorem dX10_make_1 : decode cX10_make 1 = .ok (.ifCond .lt 8, 3) := by decide +kernel
theorem dX10_make_4 : decode cX10_make 4 = .ok (.iload_n 1, 1) := by decide +kernel
theorem dX10_make_5 : decode cX10_make 5 = .ok (.iconst 4, 1) := by decide +kernel
theorem dX10_make_6 : decode cX10_make 6 = .ok (.if_icmp .lt 13, 3) := by decide +kernel
theorem dX10_make_9 : decode cX10_make 9 = .ok (.new 130, 3) := by decide +kernel
theorem dX10_make_12 : decode cX10_make 12 = .ok (.dup, 1) := by decide +kernel
theorem dX10_make_13 : decode cX10_make 13 = .ok (.ldc 145, 2) := by decide +kernel
theorem dX10_make_15 : decode cX10_make 15 = .ok (.invokespecial 134, 3) := by decide +kernel
theorem dX10_make_18 : decode cX10_make 18 = .ok (.athrow, 1) := by decide +kernel
theorem dX10_make_19 : decode cX10_make 19 = .ok (.aload_n 0, 1) := by decide +kernel
theorem dX10_make_20 : decode cX10_make 20 = .ok (.iload_n 2, 1) := by decide +kernel
theorem dX10_make_21 : decode cX10_make 21 = .ok (.iload_n 3, 1) := by decide +kernel
theorem dX10_make_22 : decode cX10_make 22 = .ok (.iload 4, 2) := by decide +kernel
theorem dX10_make_24 : decode cX10_make 24 = .ok (.invokevirtual 147, 3) := by decide +kernel
theorem dX10_make_27 : decode cX10_make 27 = .ok (.ifCond .eq 12, 3) := by decide +kernel
theorem dX10_make_30 : decode cX10_make 30 = .ok (.iload_n 2, 1) := by decide +kernel
theorem dX10_make_31 : decode cX10_make 31 = .ok (.iload 5, 2) := by decide +kernel
theorem dX10_make_33 : decode cX10_make 33 = .ok (.invokestatic 151, 3) := by decide +kernel
theorem dX10_make_36 : decode cX10_make 36 = .ok (.ifCond .ne 13, 3) := by decide +kernel
theorem dX10_make_39 : decode cX10_make 39 = .ok (.new 85, 3) := by decide +kernel
theorem dX10_make_42 : decode cX10_make 42 = .ok (.dup, 1) := by decide +kernel
theorem dX10_make_43 : decode cX10_make 43 = .ok (.ldc 155, 2) := by decide +kernel
theorem dX10_make_45 : decode cX10_make 45 = .ok (.invokespecial 89, 3) := by decide +kernel
theorem dX10_make_48 : decode cX10_make 48 = .ok (.athrow, 1) := by decide +kernel
theorem dX10_make_49 : decode cX10_make 49 = .ok (.aload_n 0, 1) := by decide +kernel
theorem dX10_make_50 : decode cX10_make 50 = .ok (.getfield 16, 3) := by decide +kernel
theorem dX10_make_53 : decode cX10_make 53 = .ok (.getfield 157, 3) := by decide +kernel
theorem dX10_make_56 : decode cX10_make 56 = .ok (.iload_n 1, 1) := by decide +kernel
theorem dX10_make_57 : decode cX10_make 57 = .ok (.aaload, 1) := by decide +kernel
theorem dX10_make_58 : decode cX10_make 58 = .ok (.iload_n 2, 1) := by decide +kernel
theorem dX10_make_59 : decode cX10_make 59 = .ok (.iload_n 3, 1) := by decide +kernel
theorem dX10_make_60 : decode cX10_make 60 = .ok (.iload 4, 2) := by decide +kernel
theorem dX10_make_62 : decode cX10_make 62 = .ok (.iload 5, 2) := by decide +kernel
theorem dX10_make_64 : decode cX10_make 64 = .ok (.invokevirtual 161, 3) := by decide +kernel
theorem dX10_make_67 : decode cX10_make 67 = .ok (.return_, 1) := by decide +kernel
theorem dX10_canBe_0 : decode cX10_canBe 0 = .ok (.iload_n 1, 1) := by decide +kernel
theorem dX10_canBe_1 : decode cX10_canBe 1 = .ok (.ifCond .lt 8, 3) := by decide +kernel
theorem dX10_canBe_4 : decode cX10_canBe 4 = .ok (.iload_n 1, 1) := by decide +kernel
theorem dX10_canBe_5 : decode cX10_canBe 5 = .ok (.iconst 4, 1) := by decide +kernel
theorem dX10_canBe_6 : decode cX10_canBe 6 = .ok (.if_icmp .le 5, 3) := by decide +kernel
theorem dX10_canBe_9 : decode cX10_canBe 9 = .ok (.iconst 0, 1) := by decide +kernel
theorem dX10_canBe_10 : decode cX10_canBe 10 = .ok (.ireturn, 1) := by decide +kernel
theorem dX10_canBe_11 : decode cX10_canBe 11 = .ok (.iload_n 1, 1) := by decide +kernel
theorem dX10_canBe_12 : decode cX10_canBe 12 = .ok (.iconst 2, 1) := by decide +kernel
theorem dX10_canBe_13 : decode cX10_canBe 13 = .ok (.if_icmp .ne 8, 3) := by decide +kernel
theorem dX10_canBe_16 : decode cX10_canBe 16 = .ok (.bipush 16, 2) := by decide +kernel
theorem dX10_canBe_18 : decode cX10_canBe 18 = .ok (.goto 15, 3) := by decide +kernel
theorem dX10_canBe_21 : decode cX10_canBe 21 = .ok (.iload_n 1, 1) := by decide +kernel
theorem dX10_canBe_22 : decode cX10_canBe 22 = .ok (.iconst 3, 1) := by decide +kernel
theorem dX10_canBe_23 : decode cX10_canBe 23 = .ok (.if_icmp .ne 8, 3) := by decide +kernel
theorem dX10_canBe_26 : decode cX10_canBe 26 = .ok (.bipush 16, 2) := by decide +kernel
theorem dX10_canBe_28 : decode cX10_canBe 28 = .ok (.goto 5, 3) := by decide +kernel
theorem dX10_canBe_31 : decode cX10_canBe 31 = .ok (.bipush 64, 2) := by decide +kernel
theorem dX10_canBe_33 : decode cX10_canBe 33 = .ok (.istore 4, 2) := by decide +kernel
theorem dX10_canBe_35 : decode cX10_canBe 35 = .ok (.iload_n 2, 1) := by decide +kernel
theorem dX10_canBe_36 : decode cX10_canBe 36 = .ok (.iconst 1, 1) := by decide +kernel
theorem dX10_canBe_37 : decode cX10_canBe 37 = .ok (.if_icmp .lt 28, 3) := by decide +kernel
theorem dX10_canBe_40 : decode cX10_canBe 40 = .ok (.iload_n 2, 1) := by decide +kernel
theorem dX10_canBe_41 : decode cX10_canBe 41 = .ok (.iload 4, 2) := by decide +kernel
theorem dX10_canBe_43 : decode cX10_canBe 43 = .ok (.if_icmp .gt 22, 3) := by decide +kernel
theorem dX10_canBe_46 : decode cX10_canBe 46 = .ok (.iload_n 3, 1) := by decide +kernel
theorem dX10_canBe_47 : decode cX10_canBe 47 = .ok (.iconst 1, 1) := by decide +kernel
theorem dX10_canBe_48 : decode cX10_canBe 48 = .ok (.if_icmp .lt 17, 3) := by decide +kernel
theorem dX10_canBe_51 : decode cX10_canBe 51 = .ok (.iload_n 3, 1) := by decide +kernel
theorem dX10_canBe_52 : decode cX10_canBe 52 = .ok (.aload_n 0, 1) := by decide +kernel
theorem dX10_canBe_53 : decode cX10_canBe 53 = .ok (.getfield 16, 3) := by decide +kernel
theorem dX10_canBe_56 : decode cX10_canBe 56 = .ok (.getfield 20, 3) := by decide +kernel
theorem dX10_canBe_59 : decode cX10_canBe 59 = .ok (.getfield 127, 3) := by decide +kernel
theorem dX10_canBe_62 : decode cX10_canBe 62 = .ok (.if_icmp .le 5, 3) := by decide +kernel
theorem dX10_canBe_65 : decode cX10_canBe 65 = .ok (.iconst 0, 1) := by decide +kernel
theorem dX10_canBe_66 : decode cX10_canBe 66 = .ok (.ireturn, 1) := by decide +kernel
theorem dX10_canBe_67 : decode cX10_canBe 67 = .ok (.iload_n 1, 1) := by decide +kernel
theorem dX10_canBe_68 : decode cX10_canBe 68 = .ok (.iconst 2, 1) := by decide +kernel
theorem dX10_canBe_69 : decode cX10_canBe 69 = .ok (.if_icmp .ne 16, 3) := by decide +kernel
theorem dX10_canBe_72 : decode cX10_canBe 72 = .ok (.iload_n 3, 1) := by decide +kernel
theorem dX10_canBe_73 : decode cX10_canBe 73 = .ok (.iconst 2, 1) := by decide +kernel
theorem dX10_canBe_74 : decode cX10_canBe 74 = .ok (.if_icmp .ne 7, 3) := by decide +kernel
theorem dX10_canBe_77 : decode cX10_canBe 77 = .ok (.iconst 1, 1) := by decide +kernel
theorem dX10_canBe_78 : decode cX10_canBe 78 = .ok (.goto 22, 3) := by decide +kernel
theorem dX10_canBe_81 : decode cX10_canBe 81 = .ok (.iconst 0, 1) := by decide +kernel
theorem dX10_canBe_82 : decode cX10_canBe 82 = .ok (.goto 18, 3) := by decide +kernel
theorem dX10_canBe_85 : decode cX10_canBe 85 = .ok (.iload_n 1, 1) := by decide +kernel
theorem dX10_canBe_86 : decode cX10_canBe 86 = .ok (.iconst 4, 1) := by decide +kernel
theorem dX10_canBe_87 : decode cX10_canBe 87 = .ok (.if_icmp .ne 8, 3) := by decide +kernel
theorem dX10_canBe_90 : decode cX10_canBe 90 = .ok (.iload_n 3, 1) := by decide +kernel
theorem dX10_canBe_91 : decode cX10_canBe 91 = .ok (.iconst 3, 1) := by decide +kernel
theorem dX10_canBe_92 : decode cX10_canBe 92 = .ok (.if_icmp .gt 7, 3) := by decide +kernel
theorem dX10_canBe_95 : decode cX10_canBe 95 = .ok (.iconst 1, 1) := by decide +kernel
theorem dX10_canBe_96 : decode cX10_canBe 96 = .ok (.goto 4, 3) := by decide +kernel
theorem dX10_canBe_99 : decode cX10_canBe 99 = .ok (.iconst 0, 1) := by decide +kernel
theorem dX10_canBe_100 : decode cX10_canBe 100 = .ok (.ireturn, 1) := by decide +kernel
theorem dX10_extraFits_0 : decode cX10_extraFits 0 = .ok (.iload_n 0, 1) := by decide +kernel
theorem dX10_extraFits_1 : decode cX10_extraFits 1 = .ok (.lookupswitch 60 #[(2, 27), (3, 43)], 27) := by decide +kernel
theorem dX10_extraFits_28 : decode cX10_extraFits 28 = .ok (.iload_n 1, 1) := by decide +kernel
theorem dX10_extraFits_29 : decode cX10_extraFits 29 = .ok (.iconst 1, 1) := by decide +kernel
theorem dX10_extraFits_30 : decode cX10_extraFits 30 = .ok (.if_icmp .lt 12, 3) := by decide +kernel
theorem dX10_extraFits_33 : decode cX10_extraFits 33 = .ok (.iload_n 1, 1) := by decide +kernel
theorem dX10_extraFits_34 : decode cX10_extraFits 34 = .ok (.iconst 4, 1) := by decide +kernel
theorem dX10_extraFits_35 : decode cX10_extraFits 35 = .ok (.if_icmp .gt 7, 3) := by decide +kernel
theorem dX10_extraFits_38 : decode cX10_extraFits 38 = .ok (.iconst 1, 1) := by decide +kernel
theorem dX10_extraFits_39 : decode cX10_extraFits 39 = .ok (.goto 4, 3) := by decide +kernel
theorem dX10_extraFits_42 : decode cX10_extraFits 42 = .ok (.iconst 0, 1) := by decide +kernel
theorem dX10_extraFits_43 : decode cX10_extraFits 43 = .ok (.ireturn, 1) := by decide +kernel
theorem dX10_extraFits_44 : decode cX10_extraFits 44 = .ok (.iload_n 1, 1) := by decide +kernel
theorem dX10_extraFits_45 : decode cX10_extraFits 45 = .ok (.iconst 1, 1) := by decide +kernel
theorem dX10_extraFits_46 : decode cX10_extraFits 46 = .ok (.if_icmp .lt 13, 3) := by decide +kernel
theorem dX10_extraFits_49 : decode cX10_extraFits 49 = .ok (.iload_n 1, 1) := by decide +kernel
theorem dX10_extraFits_50 : decode cX10_extraFits 50 = .ok (.bipush 20, 2) := by decide +kernel
theorem dX10_extraFits_52 : decode cX10_extraFits 52 = .ok (.if_icmp .gt 7, 3) := by decide +kernel
theorem dX10_extraFits_55 : decode cX10_extraFits 55 = .ok (.iconst 1, 1) := by decide +kernel
theorem dX10_extraFits_56 : decode cX10_extraFits 56 = .ok (.goto 4, 3) := by decide +kernel
theorem dX10_extraFits_59 : decode cX10_extraFits 59 = .ok (.iconst 0, 1) := by decide +kernel
theorem dX10_extraFits_60 : decode cX10_extraFits 60 = .ok (.ireturn, 1) := by decide +kernel
theorem dX10_extraFits_61 : decode cX10_extraFits 61 = .ok (.iload_n 1, 1) := by decide +kernel
theorem dX10_extraFits_62 : decode cX10_extraFits 62 = .ok (.ifCond .ne 7, 3) := by decide +kernel
theorem dX10_extraFits_65 : decode cX10_extraFits 65 = .ok (.iconst 1, 1) := by decide +kernel
theorem dX10_extraFits_66 : decode cX10_extraFits 66 = .ok (.goto 4, 3) := by decide +kernel
theorem dX10_extraFits_69 : decode cX10_extraFits 69 = .ok (.iconst 0, 1) := by decide +kernel
theorem dX10_extraFits_70 : decode cX10_extraFits 70 = .ok (.ireturn, 1) := by decide +kernel
theorem dX10_of_0 : decode cX10_of 0 = .ok (.aload_n 0, 1) := by decide +kernel
theorem dX10_of_1 : decode cX10_of 1 = .ok (.iload_n 1, 1) := by decide +kernel
theorem dX10_of_2 : decode cX10_of 2 = .ok (.invokevirtual 167, 3) := by decide +kernel
theorem dX10_of_5 : decode cX10_of 5 = .ok (.astore_n 3, 1) := by decide +kernel
theorem dX10_of_6 : decode cX10_of 6 = .ok (.iload_n 2, 1) := by decide +kernel
theorem dX10_of_7 : decode cX10_of 7 = .ok (.tableswitch 79 0 6 #[41, 46, 51, 56, 61, 69, 74], 41) := by decide +kernel
theorem dX10_of_48 : decode cX10_of 48 = .ok (.aload_n 3, 1) := by decide +kernel
theorem dX10_of_49 : decode cX10_of 49 = .ok (.getfield 171, 3) := by decide +kernel
theorem dX10_of_52 : decode cX10_of 52 = .ok (.ireturn, 1) := by decide +kernel
theorem dX10_of_53 : decode cX10_of 53 = .ok (.aload_n 3, 1) := by decide +kernel
theorem dX10_of_54 : decode cX10_of 54 = .ok (.getfield 174, 3) := by decide +kernel
theorem dX10_of_57 : decode cX10_of 57 = .ok (.ireturn, 1) := by decide +kernel
theorem dX10_of_58 : decode cX10_of 58 = .ok (.aload_n 3, 1) := by decide +kernel
theorem dX10_of_59 : decode cX10_of 59 = .ok (.getfield 177, 3) := by decide +kernel
theorem dX10_of_62 : decode cX10_of 62 = .ok (.ireturn, 1) := by decide +kernel
theorem dX10_of_63 : decode cX10_of 63 = .ok (.aload_n 3, 1) := by decide +kernel
theorem dX10_of_64 : decode cX10_of 64 = .ok (.getfield 178, 3) := by decide +kernel
theorem dX10_of_67 : decode cX10_of 67 = .ok (.ireturn, 1) := by decide +kernel
theorem dX10_of_68 : decode cX10_of 68 = .ok (.aload_n 3, 1) := by decide +kernel
theorem dX10_of_69 : decode cX10_of 69 = .ok (.getfield 181, 3) := by decide +kernel
theorem dX10_of_72 : decode cX10_of 72 = .ok (.invokevirtual 185, 3) := by decide +kernel
theorem dX10_of_75 : decode cX10_of 75 = .ok (.ireturn, 1) := by decide +kernel
theorem dX10_of_76 : decode cX10_of 76 = .ok (.aload_n 3, 1) := by decide +kernel
theorem dX10_of_77 : decode cX10_of 77 = .ok (.getfield 191, 3) := by decide +kernel
theorem dX10_of_80 : decode cX10_of 80 = .ok (.ireturn, 1) := by decide +kernel
theorem dX10_of_81 : decode cX10_of 81 = .ok (.aload_n 3, 1) := by decide +kernel
theorem dX10_of_82 : decode cX10_of 82 = .ok (.getfield 194, 3) := by decide +kernel
theorem dX10_of_85 : decode cX10_of 85 = .ok (.ireturn, 1) := by decide +kernel
theorem dX10_of_86 : decode cX10_of 86 = .ok (.new 85, 3) := by decide +kernel
theorem dX10_of_89 : decode cX10_of 89 = .ok (.dup, 1) := by decide +kernel
theorem dX10_of_90 : decode cX10_of 90 = .ok (.ldc 197, 2) := by decide +kernel
theorem dX10_of_92 : decode cX10_of 92 = .ok (.invokespecial 89, 3) := by decide +kernel
theorem dX10_of_95 : decode cX10_of 95 = .ok (.athrow, 1) := by decide +kernel
theorem dX10_cell_0 : decode cX10_cell 0 = .ok (.aload_n 0, 1) := by decide +kernel
theorem dX10_cell_1 : decode cX10_cell 1 = .ok (.iload_n 1, 1) := by decide +kernel
theorem dX10_cell_2 : decode cX10_cell 2 = .ok (.invokevirtual 167, 3) := by decide +kernel
theorem dX10_cell_5 : decode cX10_cell 5 = .ok (.astore_n 3, 1) := by decide +kernel
theorem dX10_cell_6 : decode cX10_cell 6 = .ok (.iload_n 2, 1) := by decide +kernel
theorem dX10_cell_7 : decode cX10_cell 7 = .ok (.ifCond .lt 11, 3) := by decide +kernel
theorem dX10_cell_10 : decode cX10_cell 10 = .ok (.iload_n 2, 1) := by decide +kernel
theorem dX10_cell_11 : decode cX10_cell 11 = .ok (.aload_n 3, 1) := by decide +kernel
theorem dX10_cell_12 : decode cX10_cell 12 = .ok (.invokevirtual 199, 3) := by decide +kernel
theorem dX10_cell_15 : decode cX10_cell 15 = .ok (.if_icmp .lt 13, 3) := by decide +kernel
theorem dX10_cell_18 : decode cX10_cell 18 = .ok (.new 202, 3) := by decide +kernel
theorem dX10_cell_21 : decode cX10_cell 21 = .ok (.dup, 1) := by decide +kernel
theorem dX10_cell_22 : decode cX10_cell 22 = .ok (.ldc 204, 2) := by decide +kernel
theorem dX10_cell_24 : decode cX10_cell 24 = .ok (.invokespecial 206, 3) := by decide +kernel
theorem dX10_cell_27 : decode cX10_cell 27 = .ok (.athrow, 1) := by decide +kernel
theorem dX10_cell_28 : decode cX10_cell 28 = .ok (.aload_n 3, 1) := by decide +kernel
theorem dX10_cell_29 : decode cX10_cell 29 = .ok (.getfield 171, 3) := by decide +kernel
theorem dX10_cell_32 : decode cX10_cell 32 = .ok (.iconst 2, 1) := by decide +kernel
theorem dX10_cell_33 : decode cX10_cell 33 = .ok (.if_icmp .ne 11, 3) := by decide +kernel
theorem dX10_cell_36 : decode cX10_cell 36 = .ok (.aload_n 3, 1) := by decide +kernel
theorem dX10_cell_37 : decode cX10_cell 37 = .ok (.iload_n 2, 1) := by decide +kernel
theorem dX10_cell_38 : decode cX10_cell 38 = .ok (.invokevirtual 207, 3) := by decide +kernel
theorem dX10_cell_41 : decode cX10_cell 41 = .ok (.goto 8, 3) := by decide +kernel
theorem dX10_cell_44 : decode cX10_cell 44 = .ok (.aload_n 3, 1) := by decide +kernel
theorem dX10_cell_45 : decode cX10_cell 45 = .ok (.iload_n 2, 1) := by decide +kernel
theorem dX10_cell_46 : decode cX10_cell 46 = .ok (.invokevirtual 210, 3) := by decide +kernel
theorem dX10_cell_49 : decode cX10_cell 49 = .ok (.ireturn, 1) := by decide +kernel
theorem dX10_guest_0 : decode cX10_guest 0 = .ok (.aload_n 0, 1) := by decide +kernel
theorem dX10_guest_1 : decode cX10_guest 1 = .ok (.iload_n 1, 1) := by decide +kernel
theorem dX10_guest_2 : decode cX10_guest 2 = .ok (.invokevirtual 167, 3) := by decide +kernel
theorem dX10_guest_5 : decode cX10_guest 5 = .ok (.astore 4, 2) := by decide +kernel
theorem dX10_guest_7 : decode cX10_guest 7 = .ok (.aload 4, 2) := by decide +kernel
theorem dX10_guest_9 : decode cX10_guest 9 = .ok (.iconst 2, 1) := by decide +kernel
theorem dX10_guest_10 : decode cX10_guest 10 = .ok (.invokestatic 213, 3) := by decide +kernel
theorem dX10_guest_13 : decode cX10_guest 13 = .ok (.iload_n 2, 1) := by decide +kernel
theorem dX10_guest_14 : decode cX10_guest 14 = .ok (.ifCond .lt 25, 3) := by decide +kernel
theorem dX10_guest_17 : decode cX10_guest 17 = .ok (.iload_n 2, 1) := by decide +kernel
theorem dX10_guest_18 : decode cX10_guest 18 = .ok (.aload 4, 2) := by decide +kernel
theorem dX10_guest_20 : decode cX10_guest 20 = .ok (.getfield 174, 3) := by decide +kernel
theorem dX10_guest_23 : decode cX10_guest 23 = .ok (.if_icmp .ge 16, 3) := by decide +kernel
theorem dX10_guest_26 : decode cX10_guest 26 = .ok (.iload_n 3, 1) := by decide +kernel
theorem dX10_guest_27 : decode cX10_guest 27 = .ok (.ifCond .lt 12, 3) := by decide +kernel
theorem dX10_guest_30 : decode cX10_guest 30 = .ok (.iload_n 3, 1) := by decide +kernel
theorem dX10_guest_31 : decode cX10_guest 31 = .ok (.aload 4, 2) := by decide +kernel
theorem dX10_guest_33 : decode cX10_guest 33 = .ok (.getfield 178, 3) := by decide +kernel
theorem dX10_guest_36 : decode cX10_guest 36 = .ok (.if_icmp .lt 13, 3) := by decide +kernel
theorem dX10_guest_39 : decode cX10_guest 39 = .ok (.new 202, 3) := by decide +kernel
theorem dX10_guest_42 : decode cX10_guest 42 = .ok (.dup, 1) := by decide +kernel
theorem dX10_guest_43 : decode cX10_guest 43 = .ok (.ldc 217, 2) := by decide +kernel
theorem dX10_guest_45 : decode cX10_guest 45 = .ok (.invokespecial 206, 3) := by decide +kernel
theorem dX10_guest_48 : decode cX10_guest 48 = .ok (.athrow, 1) := by decide +kernel
theorem dX10_guest_49 : decode cX10_guest 49 = .ok (.aload 4, 2) := by decide +kernel
theorem dX10_guest_51 : decode cX10_guest 51 = .ok (.iload_n 2, 1) := by decide +kernel
theorem dX10_guest_52 : decode cX10_guest 52 = .ok (.iload_n 3, 1) := by decide +kernel
theorem dX10_guest_53 : decode cX10_guest 53 = .ok (.invokevirtual 219, 3) := by decide +kernel
theorem dX10_guest_56 : decode cX10_guest 56 = .ok (.ireturn, 1) := by decide +kernel
theorem dX10_yes_0 : decode cX10_yes 0 = .ok (.aload_n 0, 1) := by decide +kernel
theorem dX10_yes_1 : decode cX10_yes 1 = .ok (.iload_n 1, 1) := by decide +kernel
theorem dX10_yes_2 : decode cX10_yes 2 = .ok (.invokevirtual 167, 3) := by decide +kernel
theorem dX10_yes_5 : decode cX10_yes 5 = .ok (.astore_n 3, 1) := by decide +kernel
theorem dX10_yes_6 : decode cX10_yes 6 = .ok (.aload_n 0, 1) := by decide +kernel
theorem dX10_yes_7 : decode cX10_yes 7 = .ok (.iload_n 2, 1) := by decide +kernel
theorem dX10_yes_8 : decode cX10_yes 8 = .ok (.i2l, 1) := by decide +kernel
theorem dX10_yes_9 : decode cX10_yes 9 = .ok (.invokevirtual 137, 3) := by decide +kernel
theorem dX10_yes_12 : decode cX10_yes 12 = .ok (.aload_n 3, 1) := by decide +kernel
theorem dX10_yes_13 : decode cX10_yes 13 = .ok (.aload_n 0, 1) := by decide +kernel
theorem dX10_yes_14 : decode cX10_yes 14 = .ok (.getfield 16, 3) := by decide +kernel
theorem dX10_yes_17 : decode cX10_yes 17 = .ok (.getfield 20, 3) := by decide +kernel
theorem dX10_yes_20 : decode cX10_yes 20 = .ok (.iload_n 2, 1) := by decide +kernel
theorem dX10_yes_21 : decode cX10_yes 21 = .ok (.invokevirtual 223, 3) := by decide +kernel
theorem dX10_yes_24 : decode cX10_yes 24 = .ok (.ireturn, 1) := by decide +kernel
theorem dX10_isPut_0 : decode cX10_isPut 0 = .ok (.aload_n 0, 1) := by decide +kernel
theorem dX10_isPut_1 : decode cX10_isPut 1 = .ok (.iload_n 1, 1) := by decide +kernel
theorem dX10_isPut_2 : decode cX10_isPut 2 = .ok (.invokevirtual 167, 3) := by decide +kernel
theorem dX10_isPut_5 : decode cX10_isPut 5 = .ok (.astore_n 3, 1) := by decide +kernel
theorem dX10_isPut_6 : decode cX10_isPut 6 = .ok (.aload_n 0, 1) := by decide +kernel
theorem dX10_isPut_7 : decode cX10_isPut 7 = .ok (.iload_n 2, 1) := by decide +kernel
theorem dX10_isPut_8 : decode cX10_isPut 8 = .ok (.i2l, 1) := by decide +kernel
theorem dX10_isPut_9 : decode cX10_isPut 9 = .ok (.invokevirtual 137, 3) := by decide +kernel
theorem dX10_isPut_12 : decode cX10_isPut 12 = .ok (.aload_n 3, 1) := by decide +kernel
theorem dX10_isPut_13 : decode cX10_isPut 13 = .ok (.getfield 181, 3) := by decide +kernel
theorem dX10_isPut_16 : decode cX10_isPut 16 = .ok (.iload_n 2, 1) := by decide +kernel
theorem dX10_isPut_17 : decode cX10_isPut 17 = .ok (.invokevirtual 227, 3) := by decide +kernel
theorem dX10_isPut_20 : decode cX10_isPut 20 = .ok (.ireturn, 1) := by decide +kernel
theorem dX10_put_0 : decode cX10_put 0 = .ok (.aload_n 0, 1) := by decide +kernel
theorem dX10_put_1 : decode cX10_put 1 = .ok (.iload_n 1, 1) := by decide +kernel
theorem dX10_put_2 : decode cX10_put 2 = .ok (.invokevirtual 167, 3) := by decide +kernel
theorem dX10_put_5 : decode cX10_put 5 = .ok (.astore_n 3, 1) := by decide +kernel
theorem dX10_put_6 : decode cX10_put 6 = .ok (.aload_n 3, 1) := by decide +kernel
theorem dX10_put_7 : decode cX10_put 7 = .ok (.invokestatic 230, 3) := by decide +kernel
theorem dX10_put_10 : decode cX10_put 10 = .ok (.aload_n 0, 1) := by decide +kernel
theorem dX10_put_11 : decode cX10_put 11 = .ok (.iload_n 2, 1) := by decide +kernel
theorem dX10_put_12 : decode cX10_put 12 = .ok (.i2l, 1) := by decide +kernel
theorem dX10_put_13 : decode cX10_put 13 = .ok (.invokevirtual 137, 3) := by decide +kernel
theorem dX10_put_16 : decode cX10_put 16 = .ok (.aload_n 0, 1) := by decide +kernel
theorem dX10_put_17 : decode cX10_put 17 = .ok (.aload_n 3, 1) := by decide +kernel
theorem dX10_put_18 : decode cX10_put 18 = .ok (.iload_n 2, 1) := by decide +kernel
theorem dX10_put_19 : decode cX10_put 19 = .ok (.invokevirtual 234, 3) := by decide +kernel
theorem dX10_put_22 : decode cX10_put 22 = .ok (.ireturn, 1) := by decide +kernel
theorem dX10_admit_0 : decode cX10_admit 0 = .ok (.aload_n 1, 1) := by decide +kernel
theorem dX10_admit_1 : decode cX10_admit 1 = .ok (.getfield 181, 3) := by decide +kernel
theorem dX10_admit_4 : decode cX10_admit 4 = .ok (.iload_n 2, 1) := by decide +kernel
theorem dX10_admit_5 : decode cX10_admit 5 = .ok (.invokevirtual 227, 3) := by decide +kernel
theorem dX10_admit_8 : decode cX10_admit 8 = .ok (.ifCond .eq 5, 3) := by decide +kernel
theorem dX10_admit_11 : decode cX10_admit 11 = .ok (.iconst 1, 1) := by decide +kernel
theorem dX10_admit_12 : decode cX10_admit 12 = .ok (.ireturn, 1) := by decide +kernel
theorem dX10_admit_13 : decode cX10_admit 13 = .ok (.aload_n 1, 1) := by decide +kernel
theorem dX10_admit_14 : decode cX10_admit 14 = .ok (.getfield 171, 3) := by decide +kernel
theorem dX10_admit_17 : decode cX10_admit 17 = .ok (.iconst 2, 1) := by decide +kernel
theorem dX10_admit_18 : decode cX10_admit 18 = .ok (.if_icmp .ne 22, 3) := by decide +kernel
theorem dX10_admit_21 : decode cX10_admit 21 = .ok (.aload_n 0, 1) := by decide +kernel
theorem dX10_admit_22 : decode cX10_admit 22 = .ok (.getfield 53, 3) := by decide +kernel
theorem dX10_admit_25 : decode cX10_admit 25 = .ok (.aload_n 1, 1) := by decide +kernel
theorem dX10_admit_26 : decode cX10_admit 26 = .ok (.aload_n 0, 1) := by decide +kernel
theorem dX10_admit_27 : decode cX10_admit 27 = .ok (.getfield 16, 3) := by decide +kernel
theorem dX10_admit_30 : decode cX10_admit 30 = .ok (.getfield 20, 3) := by decide +kernel
theorem dX10_admit_33 : decode cX10_admit 33 = .ok (.iload_n 2, 1) := by decide +kernel
theorem dX10_admit_34 : decode cX10_admit 34 = .ok (.invokevirtual 238, 3) := by decide +kernel
theorem dX10_admit_37 : decode cX10_admit 37 = .ok (.goto 15, 3) := by decide +kernel
theorem dX10_admit_40 : decode cX10_admit 40 = .ok (.aload_n 1, 1) := by decide +kernel
theorem dX10_admit_41 : decode cX10_admit 41 = .ok (.aload_n 0, 1) := by decide +kernel
theorem dX10_admit_42 : decode cX10_admit 42 = .ok (.getfield 16, 3) := by decide +kernel
theorem dX10_admit_45 : decode cX10_admit 45 = .ok (.getfield 20, 3) := by decide +kernel
theorem dX10_admit_48 : decode cX10_admit 48 = .ok (.iload_n 2, 1) := by decide +kernel
theorem dX10_admit_49 : decode cX10_admit 49 = .ok (.invokevirtual 242, 3) := by decide +kernel
theorem dX10_admit_52 : decode cX10_admit 52 = .ok (.istore_n 3, 1) := by decide +kernel
theorem dX10_admit_53 : decode cX10_admit 53 = .ok (.iload_n 3, 1) := by decide +kernel
theorem dX10_admit_54 : decode cX10_admit 54 = .ok (.ifCond .ne 5, 3) := by decide +kernel
theorem dX10_admit_57 : decode cX10_admit 57 = .ok (.iconst (-1), 1) := by decide +kernel
theorem dX10_admit_58 : decode cX10_admit 58 = .ok (.ireturn, 1) := by decide +kernel
theorem dX10_admit_59 : decode cX10_admit 59 = .ok (.aload_n 1, 1) := by decide +kernel
theorem dX10_admit_60 : decode cX10_admit 60 = .ok (.getfield 181, 3) := by decide +kernel
theorem dX10_admit_63 : decode cX10_admit 63 = .ok (.iload_n 2, 1) := by decide +kernel
theorem dX10_admit_64 : decode cX10_admit 64 = .ok (.invokevirtual 245, 3) := by decide +kernel
theorem dX10_admit_67 : decode cX10_admit 67 = .ok (.iconst 0, 1) := by decide +kernel
theorem dX10_admit_68 : decode cX10_admit 68 = .ok (.ireturn, 1) := by decide +kernel
theorem dX10_take_0 : decode cX10_take 0 = .ok (.aload_n 0, 1) := by decide +kernel
theorem dX10_take_1 : decode cX10_take 1 = .ok (.iload_n 1, 1) := by decide +kernel
theorem dX10_take_2 : decode cX10_take 2 = .ok (.invokevirtual 167, 3) := by decide +kernel
theorem dX10_take_5 : decode cX10_take 5 = .ok (.astore_n 3, 1) := by decide +kernel
theorem dX10_take_6 : decode cX10_take 6 = .ok (.aload_n 3, 1) := by decide +kernel
theorem dX10_take_7 : decode cX10_take 7 = .ok (.getfield 171, 3) := by decide +kernel
theorem dX10_take_10 : decode cX10_take 10 = .ok (.iconst 1, 1) := by decide +kernel
theorem dX10_take_11 : decode cX10_take 11 = .ok (.if_icmp .eq 21, 3) := by decide +kernel
theorem dX10_take_14 : decode cX10_take 14 = .ok (.aload_n 3, 1) := by decide +kernel
theorem dX10_take_15 : decode cX10_take 15 = .ok (.getfield 171, 3) := by decide +kernel
theorem dX10_take_18 : decode cX10_take 18 = .ok (.iconst 2, 1) := by decide +kernel
theorem dX10_take_19 : decode cX10_take 19 = .ok (.if_icmp .eq 13, 3) := by decide +kernel
theorem dX10_take_22 : decode cX10_take 22 = .ok (.new 248, 3) := by decide +kernel
theorem dX10_take_25 : decode cX10_take 25 = .ok (.dup, 1) := by decide +kernel
theorem dX10_take_26 : decode cX10_take 26 = .ok (.ldc 250, 2) := by decide +kernel
theorem dX10_take_28 : decode cX10_take 28 = .ok (.invokespecial 252, 3) := by decide +kernel
theorem dX10_take_31 : decode cX10_take 31 = .ok (.athrow, 1) := by decide +kernel
theorem dX10_take_32 : decode cX10_take 32 = .ok (.aload_n 0, 1) := by decide +kernel
theorem dX10_take_33 : decode cX10_take 33 = .ok (.iload_n 2, 1) := by decide +kernel
theorem dX10_take_34 : decode cX10_take 34 = .ok (.i2l, 1) := by decide +kernel
theorem dX10_take_35 : decode cX10_take 35 = .ok (.invokevirtual 137, 3) := by decide +kernel
theorem dX10_take_38 : decode cX10_take 38 = .ok (.aload_n 3, 1) := by decide +kernel
theorem dX10_take_39 : decode cX10_take 39 = .ok (.getfield 181, 3) := by decide +kernel
theorem dX10_take_42 : decode cX10_take 42 = .ok (.iload_n 2, 1) := by decide +kernel
theorem dX10_take_43 : decode cX10_take 43 = .ok (.invokevirtual 227, 3) := by decide +kernel
theorem dX10_take_46 : decode cX10_take 46 = .ok (.ifCond .ne 5, 3) := by decide +kernel
theorem dX10_take_49 : decode cX10_take 49 = .ok (.iconst 0, 1) := by decide +kernel
theorem dX10_take_50 : decode cX10_take 50 = .ok (.ireturn, 1) := by decide +kernel
theorem dX10_take_51 : decode cX10_take 51 = .ok (.aload_n 3, 1) := by decide +kernel
theorem dX10_take_52 : decode cX10_take 52 = .ok (.getfield 171, 3) := by decide +kernel
theorem dX10_take_55 : decode cX10_take 55 = .ok (.iconst 2, 1) := by decide +kernel
theorem dX10_take_56 : decode cX10_take 56 = .ok (.if_icmp .ne 11, 3) := by decide +kernel
theorem dX10_take_59 : decode cX10_take 59 = .ok (.aload_n 3, 1) := by decide +kernel
theorem dX10_take_60 : decode cX10_take 60 = .ok (.iload_n 2, 1) := by decide +kernel
theorem dX10_take_61 : decode cX10_take 61 = .ok (.invokevirtual 253, 3) := by decide +kernel
theorem dX10_take_64 : decode cX10_take 64 = .ok (.goto 15, 3) := by decide +kernel
theorem dX10_take_67 : decode cX10_take 67 = .ok (.aload_n 3, 1) := by decide +kernel
theorem dX10_take_68 : decode cX10_take 68 = .ok (.aload_n 0, 1) := by decide +kernel
theorem dX10_take_69 : decode cX10_take 69 = .ok (.getfield 16, 3) := by decide +kernel
theorem dX10_take_72 : decode cX10_take 72 = .ok (.getfield 20, 3) := by decide +kernel
theorem dX10_take_75 : decode cX10_take 75 = .ok (.iload_n 2, 1) := by decide +kernel
theorem dX10_take_76 : decode cX10_take 76 = .ok (.invokevirtual 256, 3) := by decide +kernel
theorem dX10_take_79 : decode cX10_take 79 = .ok (.aload_n 3, 1) := by decide +kernel
theorem dX10_take_80 : decode cX10_take 80 = .ok (.getfield 181, 3) := by decide +kernel
theorem dX10_take_83 : decode cX10_take 83 = .ok (.iload_n 2, 1) := by decide +kernel
theorem dX10_take_84 : decode cX10_take 84 = .ok (.invokevirtual 260, 3) := by decide +kernel
theorem dX10_take_87 : decode cX10_take 87 = .ok (.iconst 1, 1) := by decide +kernel
theorem dX10_take_88 : decode cX10_take 88 = .ok (.ireturn, 1) := by decide +kernel
theorem dX10_join_0 : decode cX10_join 0 = .ok (.aload_n 0, 1) := by decide +kernel
theorem dX10_join_1 : decode cX10_join 1 = .ok (.iload_n 1, 1) := by decide +kernel
theorem dX10_join_2 : decode cX10_join 2 = .ok (.invokevirtual 167, 3) := by decide +kernel
theorem dX10_join_5 : decode cX10_join 5 = .ok (.astore_n 3, 1) := by decide +kernel
theorem dX10_join_6 : decode cX10_join 6 = .ok (.aload_n 0, 1) := by decide +kernel
theorem dX10_join_7 : decode cX10_join 7 = .ok (.iload_n 2, 1) := by decide +kernel
theorem dX10_join_8 : decode cX10_join 8 = .ok (.invokevirtual 167, 3) := by decide +kernel
theorem dX10_join_11 : decode cX10_join 11 = .ok (.astore 4, 2) := by decide +kernel
theorem dX10_join_13 : decode cX10_join 13 = .ok (.aload_n 3, 1) := by decide +kernel
theorem dX10_join_14 : decode cX10_join 14 = .ok (.getfield 171, 3) := by decide +kernel
theorem dX10_join_17 : decode cX10_join 17 = .ok (.aload 4, 2) := by decide +kernel
theorem dX10_join_19 : decode cX10_join 19 = .ok (.getfield 171, 3) := by decide +kernel
theorem dX10_join_22 : decode cX10_join 22 = .ok (.if_icmp .ne 31, 3) := by decide +kernel
theorem dX10_join_25 : decode cX10_join 25 = .ok (.aload_n 3, 1) := by decide +kernel
theorem dX10_join_26 : decode cX10_join 26 = .ok (.getfield 174, 3) := by decide +kernel
theorem dX10_join_29 : decode cX10_join 29 = .ok (.aload 4, 2) := by decide +kernel
theorem dX10_join_31 : decode cX10_join 31 = .ok (.getfield 174, 3) := by decide +kernel
theorem dX10_join_34 : decode cX10_join 34 = .ok (.if_icmp .ne 19, 3) := by decide +kernel
theorem dX10_join_37 : decode cX10_join 37 = .ok (.aload_n 3, 1) := by decide +kernel
theorem dX10_join_38 : decode cX10_join 38 = .ok (.getfield 177, 3) := by decide +kernel
theorem dX10_join_41 : decode cX10_join 41 = .ok (.aload 4, 2) := by decide +kernel
theorem dX10_join_43 : decode cX10_join 43 = .ok (.getfield 177, 3) := by decide +kernel
theorem dX10_join_46 : decode cX10_join 46 = .ok (.if_icmp .ne 7, 3) := by decide +kernel
theorem dX10_join_49 : decode cX10_join 49 = .ok (.iconst 1, 1) := by decide +kernel
theorem dX10_join_50 : decode cX10_join 50 = .ok (.goto 4, 3) := by decide +kernel
theorem dX10_join_53 : decode cX10_join 53 = .ok (.iconst 0, 1) := by decide +kernel
theorem dX10_join_54 : decode cX10_join 54 = .ok (.istore 5, 2) := by decide +kernel
theorem dX10_join_56 : decode cX10_join 56 = .ok (.iload 5, 2) := by decide +kernel
theorem dX10_join_58 : decode cX10_join 58 = .ok (.ifCond .eq 10, 3) := by decide +kernel
theorem dX10_join_61 : decode cX10_join 61 = .ok (.aload_n 3, 1) := by decide +kernel
theorem dX10_join_62 : decode cX10_join 62 = .ok (.invokevirtual 263, 3) := by decide +kernel
theorem dX10_join_65 : decode cX10_join 65 = .ok (.ifCond .ne 14, 3) := by decide +kernel
theorem dX10_join_68 : decode cX10_join 68 = .ok (.new 248, 3) := by decide +kernel
theorem dX10_join_71 : decode cX10_join 71 = .ok (.dup, 1) := by decide +kernel
theorem dX10_join_72 : decode cX10_join 72 = .ok (.ldc_w 267, 3) := by decide +kernel
theorem dX10_join_75 : decode cX10_join 75 = .ok (.invokespecial 252, 3) := by decide +kernel
theorem dX10_join_78 : decode cX10_join 78 = .ok (.athrow, 1) := by decide +kernel
theorem dX10_join_79 : decode cX10_join 79 = .ok (.iload_n 1, 1) := by decide +kernel
theorem dX10_join_80 : decode cX10_join 80 = .ok (.iload_n 2, 1) := by decide +kernel
theorem dX10_join_81 : decode cX10_join 81 = .ok (.if_icmp .ne 14, 3) := by decide +kernel
theorem dX10_join_84 : decode cX10_join 84 = .ok (.new 85, 3) := by decide +kernel
theorem dX10_join_87 : decode cX10_join 87 = .ok (.dup, 1) := by decide +kernel
theorem dX10_join_88 : decode cX10_join 88 = .ok (.ldc_w 269, 3) := by decide +kernel
theorem dX10_join_91 : decode cX10_join 91 = .ok (.invokespecial 89, 3) := by decide +kernel
theorem dX10_join_94 : decode cX10_join 94 = .ok (.athrow, 1) := by decide +kernel
theorem dX10_join_95 : decode cX10_join 95 = .ok (.aload_n 3, 1) := by decide +kernel
theorem dX10_join_96 : decode cX10_join 96 = .ok (.aload 4, 2) := by decide +kernel
theorem dX10_join_98 : decode cX10_join 98 = .ok (.invokevirtual 271, 3) := by decide +kernel
theorem dX10_join_101 : decode cX10_join 101 = .ok (.aload_n 3, 1) := by decide +kernel
theorem dX10_join_102 : decode cX10_join 102 = .ok (.getfield 181, 3) := by decide +kernel
theorem dX10_join_105 : decode cX10_join 105 = .ok (.invokevirtual 185, 3) := by decide +kernel
theorem dX10_join_108 : decode cX10_join 108 = .ok (.ireturn, 1) := by decide +kernel
theorem dX10_halve_0 : decode cX10_halve 0 = .ok (.aload_n 0, 1) := by decide +kernel
theorem dX10_halve_1 : decode cX10_halve 1 = .ok (.iload_n 1, 1) := by decide +kernel
theorem dX10_halve_2 : decode cX10_halve 2 = .ok (.invokevirtual 167, 3) := by decide +kernel
theorem dX10_halve_5 : decode cX10_halve 5 = .ok (.astore_n 2, 1) := by decide +kernel
theorem dX10_halve_6 : decode cX10_halve 6 = .ok (.aload_n 2, 1) := by decide +kernel
theorem dX10_halve_7 : decode cX10_halve 7 = .ok (.invokevirtual 263, 3) := by decide +kernel
theorem dX10_halve_10 : decode cX10_halve 10 = .ok (.ifCond .eq 12, 3) := by decide +kernel
theorem dX10_halve_13 : decode cX10_halve 13 = .ok (.aload_n 2, 1) := by decide +kernel
theorem dX10_halve_14 : decode cX10_halve 14 = .ok (.getfield 174, 3) := by decide +kernel
theorem dX10_halve_17 : decode cX10_halve 17 = .ok (.iconst 2, 1) := by decide +kernel
theorem dX10_halve_18 : decode cX10_halve 18 = .ok (.irem, 1) := by decide +kernel
theorem dX10_halve_19 : decode cX10_halve 19 = .ok (.ifCond .eq 14, 3) := by decide +kernel
theorem dX10_halve_22 : decode cX10_halve 22 = .ok (.new 248, 3) := by decide +kernel
theorem dX10_halve_25 : decode cX10_halve 25 = .ok (.dup, 1) := by decide +kernel
theorem dX10_halve_26 : decode cX10_halve 26 = .ok (.ldc_w 274, 3) := by decide +kernel
theorem dX10_halve_29 : decode cX10_halve 29 = .ok (.invokespecial 252, 3) := by decide +kernel
theorem dX10_halve_32 : decode cX10_halve 32 = .ok (.athrow, 1) := by decide +kernel
theorem dX10_halve_33 : decode cX10_halve 33 = .ok (.aload_n 2, 1) := by decide +kernel
theorem dX10_halve_34 : decode cX10_halve 34 = .ok (.invokevirtual 276, 3) := by decide +kernel
theorem dX10_halve_37 : decode cX10_halve 37 = .ok (.aload_n 2, 1) := by decide +kernel
theorem dX10_halve_38 : decode cX10_halve 38 = .ok (.getfield 174, 3) := by decide +kernel
theorem dX10_halve_41 : decode cX10_halve 41 = .ok (.ireturn, 1) := by decide +kernel
theorem dX10_grow_0 : decode cX10_grow 0 = .ok (.aload_n 0, 1) := by decide +kernel
theorem dX10_grow_1 : decode cX10_grow 1 = .ok (.iload_n 1, 1) := by decide +kernel
theorem dX10_grow_2 : decode cX10_grow 2 = .ok (.invokevirtual 167, 3) := by decide +kernel
theorem dX10_grow_5 : decode cX10_grow 5 = .ok (.astore_n 2, 1) := by decide +kernel
theorem dX10_grow_6 : decode cX10_grow 6 = .ok (.aload_n 2, 1) := by decide +kernel
theorem dX10_grow_7 : decode cX10_grow 7 = .ok (.iconst 2, 1) := by decide +kernel
theorem dX10_grow_8 : decode cX10_grow 8 = .ok (.invokestatic 213, 3) := by decide +kernel
theorem dX10_grow_11 : decode cX10_grow 11 = .ok (.aload_n 2, 1) := by decide +kernel
theorem dX10_grow_12 : decode cX10_grow 12 = .ok (.getfield 174, 3) := by decide +kernel
theorem dX10_grow_15 : decode cX10_grow 15 = .ok (.bipush 8, 2) := by decide +kernel
theorem dX10_grow_17 : decode cX10_grow 17 = .ok (.if_icmp .le 14, 3) := by decide +kernel
theorem dX10_grow_20 : decode cX10_grow 20 = .ok (.new 248, 3) := by decide +kernel
theorem dX10_grow_23 : decode cX10_grow 23 = .ok (.dup, 1) := by decide +kernel
theorem dX10_grow_24 : decode cX10_grow 24 = .ok (.ldc_w 279, 3) := by decide +kernel
theorem dX10_grow_27 : decode cX10_grow 27 = .ok (.invokespecial 252, 3) := by decide +kernel
theorem dX10_grow_30 : decode cX10_grow 30 = .ok (.athrow, 1) := by decide +kernel
theorem dX10_grow_31 : decode cX10_grow 31 = .ok (.aload_n 0, 1) := by decide +kernel
theorem dX10_grow_32 : decode cX10_grow 32 = .ok (.getfield 53, 3) := by decide +kernel
theorem dX10_grow_35 : decode cX10_grow 35 = .ok (.aload_n 2, 1) := by decide +kernel
theorem dX10_grow_36 : decode cX10_grow 36 = .ok (.aload_n 0, 1) := by decide +kernel
theorem dX10_grow_37 : decode cX10_grow 37 = .ok (.getfield 16, 3) := by decide +kernel
theorem dX10_grow_40 : decode cX10_grow 40 = .ok (.getfield 20, 3) := by decide +kernel
theorem dX10_grow_43 : decode cX10_grow 43 = .ok (.invokevirtual 281, 3) := by decide +kernel
theorem dX10_grow_46 : decode cX10_grow 46 = .ok (.ifCond .eq 10, 3) := by decide +kernel
theorem dX10_grow_49 : decode cX10_grow 49 = .ok (.aload_n 2, 1) := by decide +kernel
theorem dX10_grow_50 : decode cX10_grow 50 = .ok (.getfield 174, 3) := by decide +kernel
theorem dX10_grow_53 : decode cX10_grow 53 = .ok (.goto 4, 3) := by decide +kernel
theorem dX10_grow_56 : decode cX10_grow 56 = .ok (.iconst (-1), 1) := by decide +kernel
theorem dX10_grow_57 : decode cX10_grow 57 = .ok (.ireturn, 1) := by decide +kernel
theorem dX10_solve_0 : decode cX10_solve 0 = .ok (.aload_n 0, 1) := by decide +kernel
theorem dX10_solve_1 : decode cX10_solve 1 = .ok (.iload_n 1, 1) := by decide +kernel
theorem dX10_solve_2 : decode cX10_solve 2 = .ok (.invokevirtual 167, 3) := by decide +kernel
theorem dX10_solve_5 : decode cX10_solve 5 = .ok (.astore_n 3, 1) := by decide +kernel
theorem dX10_solve_6 : decode cX10_solve 6 = .ok (.aload_n 0, 1) := by decide +kernel
theorem dX10_solve_7 : decode cX10_solve 7 = .ok (.iload_n 2, 1) := by decide +kernel
theorem dX10_solve_8 : decode cX10_solve 8 = .ok (.invokevirtual 285, 3) := by decide +kernel
theorem dX10_solve_11 : decode cX10_solve 11 = .ok (.astore 4, 2) := by decide +kernel
theorem dX10_solve_13 : decode cX10_solve 13 = .ok (.aload_n 3, 1) := by decide +kernel
theorem dX10_solve_14 : decode cX10_solve 14 = .ok (.iconst 4, 1) := by decide +kernel
theorem dX10_solve_15 : decode cX10_solve 15 = .ok (.invokestatic 213, 3) := by decide +kernel
theorem dX10_solve_18 : decode cX10_solve 18 = .ok (.aload 4, 2) := by decide +kernel
theorem dX10_solve_20 : decode cX10_solve 20 = .ok (.invokestatic 289, 3) := by decide +kernel
theorem dX10_solve_23 : decode cX10_solve 23 = .ok (.aload_n 0, 1) := by decide +kernel
theorem dX10_solve_24 : decode cX10_solve 24 = .ok (.aload 4, 2) := by decide +kernel
theorem dX10_solve_26 : decode cX10_solve 26 = .ok (.invokevirtual 293, 3) := by decide +kernel
theorem dX10_solve_29 : decode cX10_solve 29 = .ok (.aload 4, 2) := by decide +kernel
theorem dX10_solve_31 : decode cX10_solve 31 = .ok (.invokevirtual 296, 3) := by decide +kernel
theorem dX10_solve_34 : decode cX10_solve 34 = .ok (.ifCond .eq 14, 3) := by decide +kernel
theorem dX10_solve_37 : decode cX10_solve 37 = .ok (.new 85, 3) := by decide +kernel
theorem dX10_solve_40 : decode cX10_solve 40 = .ok (.dup, 1) := by decide +kernel
theorem dX10_solve_41 : decode cX10_solve 41 = .ok (.ldc_w 299, 3) := by decide +kernel
theorem dX10_solve_44 : decode cX10_solve 44 = .ok (.invokespecial 89, 3) := by decide +kernel
theorem dX10_solve_47 : decode cX10_solve 47 = .ok (.athrow, 1) := by decide +kernel
theorem dX10_solve_48 : decode cX10_solve 48 = .ok (.aload_n 0, 1) := by decide +kernel
theorem dX10_solve_49 : decode cX10_solve 49 = .ok (.getfield 60, 3) := by decide +kernel
theorem dX10_solve_52 : decode cX10_solve 52 = .ok (.aload_n 3, 1) := by decide +kernel
theorem dX10_solve_53 : decode cX10_solve 53 = .ok (.aload_n 0, 1) := by decide +kernel
theorem dX10_solve_54 : decode cX10_solve 54 = .ok (.getfield 16, 3) := by decide +kernel
theorem dX10_solve_57 : decode cX10_solve 57 = .ok (.getfield 20, 3) := by decide +kernel
theorem dX10_solve_60 : decode cX10_solve 60 = .ok (.aload 4, 2) := by decide +kernel
theorem dX10_solve_62 : decode cX10_solve 62 = .ok (.invokevirtual 301, 3) := by decide +kernel
theorem dX10_solve_65 : decode cX10_solve 65 = .ok (.ifCond .eq 11, 3) := by decide +kernel
theorem dX10_solve_68 : decode cX10_solve 68 = .ok (.aload 4, 2) := by decide +kernel
theorem dX10_solve_70 : decode cX10_solve 70 = .ok (.getfield 305, 3) := by decide +kernel
theorem dX10_solve_73 : decode cX10_solve 73 = .ok (.goto 4, 3) := by decide +kernel
theorem dX10_solve_76 : decode cX10_solve 76 = .ok (.iconst (-1), 1) := by decide +kernel
theorem dX10_solve_77 : decode cX10_solve 77 = .ok (.ireturn, 1) := by decide +kernel
theorem dX10_lying_0 : decode cX10_lying 0 = .ok (.aload_n 0, 1) := by decide +kernel
theorem dX10_lying_1 : decode cX10_lying 1 = .ok (.iload_n 1, 1) := by decide +kernel
theorem dX10_lying_2 : decode cX10_lying 2 = .ok (.invokevirtual 167, 3) := by decide +kernel
theorem dX10_lying_5 : decode cX10_lying 5 = .ok (.astore_n 2, 1) := by decide +kernel
theorem dX10_lying_6 : decode cX10_lying 6 = .ok (.aload_n 0, 1) := by decide +kernel
theorem dX10_lying_7 : decode cX10_lying 7 = .ok (.aload_n 2, 1) := by decide +kernel
theorem dX10_lying_8 : decode cX10_lying 8 = .ok (.invokevirtual 307, 3) := by decide +kernel
theorem dX10_lying_11 : decode cX10_lying 11 = .ok (.istore_n 3, 1) := by decide +kernel
theorem dX10_lying_12 : decode cX10_lying 12 = .ok (.aload_n 0, 1) := by decide +kernel
theorem dX10_lying_13 : decode cX10_lying 13 = .ok (.getfield 16, 3) := by decide +kernel
theorem dX10_lying_16 : decode cX10_lying 16 = .ok (.getfield 20, 3) := by decide +kernel
theorem dX10_lying_19 : decode cX10_lying 19 = .ok (.getfield 311, 3) := by decide +kernel
theorem dX10_lying_22 : decode cX10_lying 22 = .ok (.aload_n 2, 1) := by decide +kernel
theorem dX10_lying_23 : decode cX10_lying 23 = .ok (.getfield 181, 3) := by decide +kernel
theorem dX10_lying_26 : decode cX10_lying 26 = .ok (.invokevirtual 185, 3) := by decide +kernel
theorem dX10_lying_29 : decode cX10_lying 29 = .ok (.isub, 1) := by decide +kernel
theorem dX10_lying_30 : decode cX10_lying 30 = .ok (.istore 4, 2) := by decide +kernel
theorem dX10_lying_32 : decode cX10_lying 32 = .ok (.iload_n 3, 1) := by decide +kernel
theorem dX10_lying_33 : decode cX10_lying 33 = .ok (.iload 4, 2) := by decide +kernel
theorem dX10_lying_35 : decode cX10_lying 35 = .ok (.invokestatic 314, 3) := by decide +kernel
theorem dX10_lying_38 : decode cX10_lying 38 = .ok (.istore 5, 2) := by decide +kernel
theorem dX10_lying_40 : decode cX10_lying 40 = .ok (.aload_n 0, 1) := by decide +kernel
theorem dX10_lying_41 : decode cX10_lying 41 = .ok (.iload 5, 2) := by decide +kernel
theorem dX10_lying_43 : decode cX10_lying 43 = .ok (.ifCond .ne 7, 3) := by decide +kernel
theorem dX10_lying_46 : decode cX10_lying 46 = .ok (.iconst 0, 1) := by decide +kernel
theorem dX10_lying_47 : decode cX10_lying 47 = .ok (.goto 7, 3) := by decide +kernel
theorem dX10_lying_50 : decode cX10_lying 50 = .ok (.iload_n 3, 1) := by decide +kernel
theorem dX10_lying_51 : decode cX10_lying 51 = .ok (.iload 5, 2) := by decide +kernel
theorem dX10_lying_53 : decode cX10_lying 53 = .ok (.idiv, 1) := by decide +kernel
theorem dX10_lying_54 : decode cX10_lying 54 = .ok (.putfield 317, 3) := by decide +kernel
theorem dX10_lying_57 : decode cX10_lying 57 = .ok (.aload_n 0, 1) := by decide +kernel
theorem dX10_lying_58 : decode cX10_lying 58 = .ok (.iload 5, 2) := by decide +kernel
theorem dX10_lying_60 : decode cX10_lying 60 = .ok (.ifCond .ne 7, 3) := by decide +kernel
theorem dX10_lying_63 : decode cX10_lying 63 = .ok (.iconst 0, 1) := by decide +kernel
theorem dX10_lying_64 : decode cX10_lying 64 = .ok (.goto 8, 3) := by decide +kernel
theorem dX10_lying_67 : decode cX10_lying 67 = .ok (.iload 4, 2) := by decide +kernel
theorem dX10_lying_69 : decode cX10_lying 69 = .ok (.iload 5, 2) := by decide +kernel
theorem dX10_lying_71 : decode cX10_lying 71 = .ok (.idiv, 1) := by decide +kernel
theorem dX10_lying_72 : decode cX10_lying 72 = .ok (.putfield 320, 3) := by decide +kernel
theorem dX10_lying_75 : decode cX10_lying 75 = .ok (.iload 4, 2) := by decide +kernel
theorem dX10_lying_77 : decode cX10_lying 77 = .ok (.ifCond .eq 7, 3) := by decide +kernel
theorem dX10_lying_80 : decode cX10_lying 80 = .ok (.iconst 1, 1) := by decide +kernel
theorem dX10_lying_81 : decode cX10_lying 81 = .ok (.goto 4, 3) := by decide +kernel
theorem dX10_lying_84 : decode cX10_lying 84 = .ok (.iconst 0, 1) := by decide +kernel
theorem dX10_lying_85 : decode cX10_lying 85 = .ok (.ireturn, 1) := by decide +kernel
theorem dX10_commonDivisor_0 : decode cX10_commonDivisor 0 = .ok (.iload_n 0, 1) := by decide +kernel
theorem dX10_commonDivisor_1 : decode cX10_commonDivisor 1 = .ok (.istore_n 2, 1) := by decide +kernel
theorem dX10_commonDivisor_2 : decode cX10_commonDivisor 2 = .ok (.iload_n 1, 1) := by decide +kernel
theorem dX10_commonDivisor_3 : decode cX10_commonDivisor 3 = .ok (.istore_n 3, 1) := by decide +kernel
theorem dX10_commonDivisor_4 : decode cX10_commonDivisor 4 = .ok (.iconst 0, 1) := by decide +kernel
theorem dX10_commonDivisor_5 : decode cX10_commonDivisor 5 = .ok (.istore 4, 2) := by decide +kernel
theorem dX10_commonDivisor_7 : decode cX10_commonDivisor 7 = .ok (.iload 4, 2) := by decide +kernel
theorem dX10_commonDivisor_9 : decode cX10_commonDivisor 9 = .ok (.sipush 256, 3) := by decide +kernel
theorem dX10_commonDivisor_12 : decode cX10_commonDivisor 12 = .ok (.if_icmp .ge 23, 3) := by decide +kernel
theorem dX10_commonDivisor_15 : decode cX10_commonDivisor 15 = .ok (.iload_n 3, 1) := by decide +kernel
theorem dX10_commonDivisor_16 : decode cX10_commonDivisor 16 = .ok (.ifCond .eq 19, 3) := by decide +kernel
theorem dX10_commonDivisor_19 : decode cX10_commonDivisor 19 = .ok (.iload_n 2, 1) := by decide +kernel
theorem dX10_commonDivisor_20 : decode cX10_commonDivisor 20 = .ok (.iload_n 3, 1) := by decide +kernel
theorem dX10_commonDivisor_21 : decode cX10_commonDivisor 21 = .ok (.irem, 1) := by decide +kernel
theorem dX10_commonDivisor_22 : decode cX10_commonDivisor 22 = .ok (.istore 5, 2) := by decide +kernel
theorem dX10_commonDivisor_24 : decode cX10_commonDivisor 24 = .ok (.iload_n 3, 1) := by decide +kernel
theorem dX10_commonDivisor_25 : decode cX10_commonDivisor 25 = .ok (.istore_n 2, 1) := by decide +kernel
theorem dX10_commonDivisor_26 : decode cX10_commonDivisor 26 = .ok (.iload 5, 2) := by decide +kernel
theorem dX10_commonDivisor_28 : decode cX10_commonDivisor 28 = .ok (.istore_n 3, 1) := by decide +kernel
theorem dX10_commonDivisor_29 : decode cX10_commonDivisor 29 = .ok (.iinc 4 1, 3) := by decide +kernel
theorem dX10_commonDivisor_32 : decode cX10_commonDivisor 32 = .ok (.goto (-25), 3) := by decide +kernel
theorem dX10_commonDivisor_35 : decode cX10_commonDivisor 35 = .ok (.iload_n 2, 1) := by decide +kernel
theorem dX10_commonDivisor_36 : decode cX10_commonDivisor 36 = .ok (.ireturn, 1) := by decide +kernel
theorem dX10_isLie_0 : decode cX10_isLie 0 = .ok (.aload_n 1, 1) := by decide +kernel
theorem dX10_isLie_1 : decode cX10_isLie 1 = .ok (.getfield 181, 3) := by decide +kernel
theorem dX10_isLie_4 : decode cX10_isLie 4 = .ok (.iload_n 2, 1) := by decide +kernel
theorem dX10_isLie_5 : decode cX10_isLie 5 = .ok (.invokevirtual 227, 3) := by decide +kernel
theorem dX10_isLie_8 : decode cX10_isLie 8 = .ok (.ifCond .ne 22, 3) := by decide +kernel
theorem dX10_isLie_11 : decode cX10_isLie 11 = .ok (.aload_n 1, 1) := by decide +kernel
theorem dX10_isLie_12 : decode cX10_isLie 12 = .ok (.aload_n 0, 1) := by decide +kernel
theorem dX10_isLie_13 : decode cX10_isLie 13 = .ok (.getfield 16, 3) := by decide +kernel
theorem dX10_isLie_16 : decode cX10_isLie 16 = .ok (.getfield 20, 3) := by decide +kernel
theorem dX10_isLie_19 : decode cX10_isLie 19 = .ok (.iload_n 2, 1) := by decide +kernel
theorem dX10_isLie_20 : decode cX10_isLie 20 = .ok (.invokevirtual 223, 3) := by decide +kernel
theorem dX10_isLie_23 : decode cX10_isLie 23 = .ok (.ifCond .eq 7, 3) := by decide +kernel
theorem dX10_isLie_26 : decode cX10_isLie 26 = .ok (.iconst 1, 1) := by decide +kernel
theorem dX10_isLie_27 : decode cX10_isLie 27 = .ok (.goto 4, 3) := by decide +kernel
theorem dX10_isLie_30 : decode cX10_isLie 30 = .ok (.iconst 0, 1) := by decide +kernel
theorem dX10_isLie_31 : decode cX10_isLie 31 = .ok (.ireturn, 1) := by decide +kernel
theorem dX10_countLies_0 : decode cX10_countLies 0 = .ok (.iconst 0, 1) := by decide +kernel
theorem dX10_countLies_1 : decode cX10_countLies 1 = .ok (.istore_n 2, 1) := by decide +kernel
theorem dX10_countLies_2 : decode cX10_countLies 2 = .ok (.iconst 0, 1) := by decide +kernel
theorem dX10_countLies_3 : decode cX10_countLies 3 = .ok (.istore_n 3, 1) := by decide +kernel
theorem dX10_countLies_4 : decode cX10_countLies 4 = .ok (.iload_n 3, 1) := by decide +kernel
theorem dX10_countLies_5 : decode cX10_countLies 5 = .ok (.aload_n 0, 1) := by decide +kernel
theorem dX10_countLies_6 : decode cX10_countLies 6 = .ok (.getfield 16, 3) := by decide +kernel
theorem dX10_countLies_9 : decode cX10_countLies 9 = .ok (.getfield 20, 3) := by decide +kernel
theorem dX10_countLies_12 : decode cX10_countLies 12 = .ok (.getfield 311, 3) := by decide +kernel
theorem dX10_countLies_15 : decode cX10_countLies 15 = .ok (.if_icmp .ge 38, 3) := by decide +kernel
theorem dX10_countLies_18 : decode cX10_countLies 18 = .ok (.aload_n 1, 1) := by decide +kernel
theorem dX10_countLies_19 : decode cX10_countLies 19 = .ok (.getfield 181, 3) := by decide +kernel
theorem dX10_countLies_22 : decode cX10_countLies 22 = .ok (.iload_n 3, 1) := by decide +kernel
theorem dX10_countLies_23 : decode cX10_countLies 23 = .ok (.invokevirtual 227, 3) := by decide +kernel
theorem dX10_countLies_26 : decode cX10_countLies 26 = .ok (.ifCond .ne 21, 3) := by decide +kernel
theorem dX10_countLies_29 : decode cX10_countLies 29 = .ok (.aload_n 1, 1) := by decide +kernel
theorem dX10_countLies_30 : decode cX10_countLies 30 = .ok (.aload_n 0, 1) := by decide +kernel
theorem dX10_countLies_31 : decode cX10_countLies 31 = .ok (.getfield 16, 3) := by decide +kernel
theorem dX10_countLies_34 : decode cX10_countLies 34 = .ok (.getfield 20, 3) := by decide +kernel
theorem dX10_countLies_37 : decode cX10_countLies 37 = .ok (.iload_n 3, 1) := by decide +kernel
theorem dX10_countLies_38 : decode cX10_countLies 38 = .ok (.invokevirtual 223, 3) := by decide +kernel
theorem dX10_countLies_41 : decode cX10_countLies 41 = .ok (.ifCond .eq 6, 3) := by decide +kernel
theorem dX10_countLies_44 : decode cX10_countLies 44 = .ok (.iinc 2 1, 3) := by decide +kernel
theorem dX10_countLies_47 : decode cX10_countLies 47 = .ok (.iinc 3 1, 3) := by decide +kernel
theorem dX10_countLies_50 : decode cX10_countLies 50 = .ok (.goto (-46), 3) := by decide +kernel
theorem dX10_countLies_53 : decode cX10_countLies 53 = .ok (.iload_n 2, 1) := by decide +kernel
theorem dX10_countLies_54 : decode cX10_countLies 54 = .ok (.ireturn, 1) := by decide +kernel
theorem dX10_upper_0 : decode cX10_upper 0 = .ok (.aload_n 0, 1) := by decide +kernel
theorem dX10_upper_1 : decode cX10_upper 1 = .ok (.getfield 317, 3) := by decide +kernel
theorem dX10_upper_4 : decode cX10_upper 4 = .ok (.ireturn, 1) := by decide +kernel
theorem dX10_lower_0 : decode cX10_lower 0 = .ok (.aload_n 0, 1) := by decide +kernel
theorem dX10_lower_1 : decode cX10_lower 1 = .ok (.getfield 320, 3) := by decide +kernel
theorem dX10_lower_4 : decode cX10_lower 4 = .ok (.ireturn, 1) := by decide +kernel
theorem dX10_lie_0 : decode cX10_lie 0 = .ok (.aload_n 0, 1) := by decide +kernel
theorem dX10_lie_1 : decode cX10_lie 1 = .ok (.iload_n 1, 1) := by decide +kernel
theorem dX10_lie_2 : decode cX10_lie 2 = .ok (.invokevirtual 167, 3) := by decide +kernel
theorem dX10_lie_5 : decode cX10_lie 5 = .ok (.astore_n 3, 1) := by decide +kernel
theorem dX10_lie_6 : decode cX10_lie 6 = .ok (.iconst 0, 1) := by decide +kernel
theorem dX10_lie_7 : decode cX10_lie 7 = .ok (.istore 4, 2) := by decide +kernel
theorem dX10_lie_9 : decode cX10_lie 9 = .ok (.iconst 0, 1) := by decide +kernel
theorem dX10_lie_10 : decode cX10_lie 10 = .ok (.istore 5, 2) := by decide +kernel
theorem dX10_lie_12 : decode cX10_lie 12 = .ok (.iload 5, 2) := by decide +kernel
theorem dX10_lie_14 : decode cX10_lie 14 = .ok (.aload_n 0, 1) := by decide +kernel
theorem dX10_lie_15 : decode cX10_lie 15 = .ok (.getfield 16, 3) := by decide +kernel
theorem dX10_lie_18 : decode cX10_lie 18 = .ok (.getfield 20, 3) := by decide +kernel
theorem dX10_lie_21 : decode cX10_lie 21 = .ok (.getfield 311, 3) := by decide +kernel
theorem dX10_lie_24 : decode cX10_lie 24 = .ok (.if_icmp .ge 37, 3) := by decide +kernel
theorem dX10_lie_27 : decode cX10_lie 27 = .ok (.iload 4, 2) := by decide +kernel
theorem dX10_lie_29 : decode cX10_lie 29 = .ok (.iload_n 2, 1) := by decide +kernel
theorem dX10_lie_30 : decode cX10_lie 30 = .ok (.if_icmp .gt 31, 3) := by decide +kernel
theorem dX10_lie_33 : decode cX10_lie 33 = .ok (.aload_n 0, 1) := by decide +kernel
theorem dX10_lie_34 : decode cX10_lie 34 = .ok (.aload_n 3, 1) := by decide +kernel
theorem dX10_lie_35 : decode cX10_lie 35 = .ok (.iload 5, 2) := by decide +kernel
theorem dX10_lie_37 : decode cX10_lie 37 = .ok (.invokevirtual 323, 3) := by decide +kernel
theorem dX10_lie_40 : decode cX10_lie 40 = .ok (.ifCond .eq 15, 3) := by decide +kernel
theorem dX10_lie_43 : decode cX10_lie 43 = .ok (.iload 4, 2) := by decide +kernel
theorem dX10_lie_45 : decode cX10_lie 45 = .ok (.iload_n 2, 1) := by decide +kernel
theorem dX10_lie_46 : decode cX10_lie 46 = .ok (.if_icmp .ne 6, 3) := by decide +kernel
theorem dX10_lie_49 : decode cX10_lie 49 = .ok (.iload 5, 2) := by decide +kernel
theorem dX10_lie_51 : decode cX10_lie 51 = .ok (.ireturn, 1) := by decide +kernel
theorem dX10_lie_52 : decode cX10_lie 52 = .ok (.iinc 4 1, 3) := by decide +kernel
theorem dX10_lie_55 : decode cX10_lie 55 = .ok (.iinc 5 1, 3) := by decide +kernel
theorem dX10_lie_58 : decode cX10_lie 58 = .ok (.goto (-46), 3) := by decide +kernel
theorem dX10_lie_61 : decode cX10_lie 61 = .ok (.iconst (-1), 1) := by decide +kernel
theorem dX10_lie_62 : decode cX10_lie 62 = .ok (.ireturn, 1) := by decide +kernel
theorem dX10_wronged_0 : decode cX10_wronged 0 = .ok (.aload_n 0, 1) := by decide +kernel
theorem dX10_wronged_1 : decode cX10_wronged 1 = .ok (.iload_n 1, 1) := by decide +kernel
theorem dX10_wronged_2 : decode cX10_wronged 2 = .ok (.invokevirtual 167, 3) := by decide +kernel
theorem dX10_wronged_5 : decode cX10_wronged 5 = .ok (.astore 4, 2) := by decide +kernel
theorem dX10_wronged_7 : decode cX10_wronged 7 = .ok (.aload_n 0, 1) := by decide +kernel
theorem dX10_wronged_8 : decode cX10_wronged 8 = .ok (.iload_n 2, 1) := by decide +kernel
theorem dX10_wronged_9 : decode cX10_wronged 9 = .ok (.invokevirtual 285, 3) := by decide +kernel
theorem dX10_wronged_12 : decode cX10_wronged 12 = .ok (.astore 5, 2) := by decide +kernel
theorem dX10_wronged_14 : decode cX10_wronged 14 = .ok (.aload 5, 2) := by decide +kernel
theorem dX10_wronged_16 : decode cX10_wronged 16 = .ok (.invokestatic 289, 3) := by decide +kernel
theorem dX10_wronged_19 : decode cX10_wronged 19 = .ok (.iconst 0, 1) := by decide +kernel
theorem dX10_wronged_20 : decode cX10_wronged 20 = .ok (.istore 6, 2) := by decide +kernel
theorem dX10_wronged_22 : decode cX10_wronged 22 = .ok (.iconst 0, 1) := by decide +kernel
theorem dX10_wronged_23 : decode cX10_wronged 23 = .ok (.istore 7, 2) := by decide +kernel
theorem dX10_wronged_25 : decode cX10_wronged 25 = .ok (.iload 7, 2) := by decide +kernel
theorem dX10_wronged_27 : decode cX10_wronged 27 = .ok (.aload 5, 2) := by decide +kernel
theorem dX10_wronged_29 : decode cX10_wronged 29 = .ok (.getfield 305, 3) := by decide +kernel
theorem dX10_wronged_32 : decode cX10_wronged 32 = .ok (.if_icmp .ge 58, 3) := by decide +kernel
theorem dX10_wronged_35 : decode cX10_wronged 35 = .ok (.aload_n 0, 1) := by decide +kernel
theorem dX10_wronged_36 : decode cX10_wronged 36 = .ok (.aload 5, 2) := by decide +kernel
theorem dX10_wronged_38 : decode cX10_wronged 38 = .ok (.iload 7, 2) := by decide +kernel
theorem dX10_wronged_40 : decode cX10_wronged 40 = .ok (.invokevirtual 327, 3) := by decide +kernel
theorem dX10_wronged_43 : decode cX10_wronged 43 = .ok (.invokevirtual 331, 3) := by decide +kernel
theorem dX10_wronged_46 : decode cX10_wronged 46 = .ok (.ifCond .eq 38, 3) := by decide +kernel
theorem dX10_wronged_49 : decode cX10_wronged 49 = .ok (.aload_n 0, 1) := by decide +kernel
theorem dX10_wronged_50 : decode cX10_wronged 50 = .ok (.aload 4, 2) := by decide +kernel
theorem dX10_wronged_52 : decode cX10_wronged 52 = .ok (.aload 5, 2) := by decide +kernel
theorem dX10_wronged_54 : decode cX10_wronged 54 = .ok (.iload 7, 2) := by decide +kernel
theorem dX10_wronged_56 : decode cX10_wronged 56 = .ok (.invokevirtual 327, 3) := by decide +kernel
theorem dX10_wronged_59 : decode cX10_wronged 59 = .ok (.l2i, 1) := by decide +kernel
theorem dX10_wronged_60 : decode cX10_wronged 60 = .ok (.invokevirtual 323, 3) := by decide +kernel
theorem dX10_wronged_63 : decode cX10_wronged 63 = .ok (.ifCond .eq 21, 3) := by decide +kernel
theorem dX10_wronged_66 : decode cX10_wronged 66 = .ok (.iload 6, 2) := by decide +kernel
theorem dX10_wronged_68 : decode cX10_wronged 68 = .ok (.iload_n 3, 1) := by decide +kernel
theorem dX10_wronged_69 : decode cX10_wronged 69 = .ok (.if_icmp .ne 12, 3) := by decide +kernel
theorem dX10_wronged_72 : decode cX10_wronged 72 = .ok (.aload 5, 2) := by decide +kernel
theorem dX10_wronged_74 : decode cX10_wronged 74 = .ok (.iload 7, 2) := by decide +kernel
theorem dX10_wronged_76 : decode cX10_wronged 76 = .ok (.invokevirtual 327, 3) := by decide +kernel
theorem dX10_wronged_79 : decode cX10_wronged 79 = .ok (.l2i, 1) := by decide +kernel
theorem dX10_wronged_80 : decode cX10_wronged 80 = .ok (.ireturn, 1) := by decide +kernel
theorem dX10_wronged_81 : decode cX10_wronged 81 = .ok (.iinc 6 1, 3) := by decide +kernel
theorem dX10_wronged_84 : decode cX10_wronged 84 = .ok (.iinc 7 1, 3) := by decide +kernel
theorem dX10_wronged_87 : decode cX10_wronged 87 = .ok (.goto (-62), 3) := by decide +kernel
theorem dX10_wronged_90 : decode cX10_wronged 90 = .ok (.iload_n 3, 1) := by decide +kernel
theorem dX10_wronged_91 : decode cX10_wronged 91 = .ok (.iconst (-1), 1) := by decide +kernel
theorem dX10_wronged_92 : decode cX10_wronged 92 = .ok (.if_icmp .ne 8, 3) := by decide +kernel
theorem dX10_wronged_95 : decode cX10_wronged 95 = .ok (.iload 6, 2) := by decide +kernel
theorem dX10_wronged_97 : decode cX10_wronged 97 = .ok (.goto 4, 3) := by decide +kernel
theorem dX10_wronged_100 : decode cX10_wronged 100 = .ok (.iconst (-1), 1) := by decide +kernel
theorem dX10_wronged_101 : decode cX10_wronged 101 = .ok (.ireturn, 1) := by decide +kernel
theorem dX10_worse_0 : decode cX10_worse 0 = .ok (.aload_n 0, 1) := by decide +kernel
theorem dX10_worse_1 : decode cX10_worse 1 = .ok (.iload_n 1, 1) := by decide +kernel
theorem dX10_worse_2 : decode cX10_worse 2 = .ok (.invokevirtual 167, 3) := by decide +kernel
theorem dX10_worse_5 : decode cX10_worse 5 = .ok (.astore_n 3, 1) := by decide +kernel
theorem dX10_worse_6 : decode cX10_worse 6 = .ok (.aload_n 0, 1) := by decide +kernel
theorem dX10_worse_7 : decode cX10_worse 7 = .ok (.iload_n 2, 1) := by decide +kernel
theorem dX10_worse_8 : decode cX10_worse 8 = .ok (.invokevirtual 167, 3) := by decide +kernel
theorem dX10_worse_11 : decode cX10_worse 11 = .ok (.astore 4, 2) := by decide +kernel
theorem dX10_worse_13 : decode cX10_worse 13 = .ok (.aload_n 0, 1) := by decide +kernel
theorem dX10_worse_14 : decode cX10_worse 14 = .ok (.aload_n 3, 1) := by decide +kernel
theorem dX10_worse_15 : decode cX10_worse 15 = .ok (.invokevirtual 307, 3) := by decide +kernel
theorem dX10_worse_18 : decode cX10_worse 18 = .ok (.aload_n 0, 1) := by decide +kernel
theorem dX10_worse_19 : decode cX10_worse 19 = .ok (.aload 4, 2) := by decide +kernel
theorem dX10_worse_21 : decode cX10_worse 21 = .ok (.invokevirtual 307, 3) := by decide +kernel
theorem dX10_worse_24 : decode cX10_worse 24 = .ok (.isub, 1) := by decide +kernel
theorem dX10_worse_25 : decode cX10_worse 25 = .ok (.ireturn, 1) := by decide +kernel
theorem dX10_cascade_0 : decode cX10_cascade 0 = .ok (.aload_n 0, 1) := by decide +kernel
theorem dX10_cascade_1 : decode cX10_cascade 1 = .ok (.iload_n 1, 1) := by decide +kernel
theorem dX10_cascade_2 : decode cX10_cascade 2 = .ok (.invokevirtual 167, 3) := by decide +kernel
theorem dX10_cascade_5 : decode cX10_cascade 5 = .ok (.astore 5, 2) := by decide +kernel
theorem dX10_cascade_7 : decode cX10_cascade 7 = .ok (.aload_n 0, 1) := by decide +kernel
theorem dX10_cascade_8 : decode cX10_cascade 8 = .ok (.iload_n 2, 1) := by decide +kernel
theorem dX10_cascade_9 : decode cX10_cascade 9 = .ok (.invokevirtual 285, 3) := by decide +kernel
theorem dX10_cascade_12 : decode cX10_cascade 12 = .ok (.astore 6, 2) := by decide +kernel
theorem dX10_cascade_14 : decode cX10_cascade 14 = .ok (.aload_n 0, 1) := by decide +kernel
theorem dX10_cascade_15 : decode cX10_cascade 15 = .ok (.iload_n 3, 1) := by decide +kernel
theorem dX10_cascade_16 : decode cX10_cascade 16 = .ok (.invokevirtual 285, 3) := by decide +kernel
theorem dX10_cascade_19 : decode cX10_cascade 19 = .ok (.astore 7, 2) := by decide +kernel
theorem dX10_cascade_21 : decode cX10_cascade 21 = .ok (.aload 5, 2) := by decide +kernel
theorem dX10_cascade_23 : decode cX10_cascade 23 = .ok (.iconst 0, 1) := by decide +kernel
theorem dX10_cascade_24 : decode cX10_cascade 24 = .ok (.invokestatic 213, 3) := by decide +kernel
theorem dX10_cascade_27 : decode cX10_cascade 27 = .ok (.aload 6, 2) := by decide +kernel
theorem dX10_cascade_29 : decode cX10_cascade 29 = .ok (.invokestatic 289, 3) := by decide +kernel
theorem dX10_cascade_32 : decode cX10_cascade 32 = .ok (.aload 7, 2) := by decide +kernel
theorem dX10_cascade_34 : decode cX10_cascade 34 = .ok (.invokestatic 289, 3) := by decide +kernel
theorem dX10_cascade_37 : decode cX10_cascade 37 = .ok (.iload 4, 2) := by decide +kernel
theorem dX10_cascade_39 : decode cX10_cascade 39 = .ok (.iconst 2, 1) := by decide +kernel
theorem dX10_cascade_40 : decode cX10_cascade 40 = .ok (.invokestatic 335, 3) := by decide +kernel
theorem dX10_cascade_43 : decode cX10_cascade 43 = .ok (.aload_n 0, 1) := by decide +kernel
theorem dX10_cascade_44 : decode cX10_cascade 44 = .ok (.aload 6, 2) := by decide +kernel
theorem dX10_cascade_46 : decode cX10_cascade 46 = .ok (.invokevirtual 293, 3) := by decide +kernel
theorem dX10_cascade_49 : decode cX10_cascade 49 = .ok (.aload 7, 2) := by decide +kernel
theorem dX10_cascade_51 : decode cX10_cascade 51 = .ok (.iconst 1, 1) := by decide +kernel
theorem dX10_cascade_52 : decode cX10_cascade 52 = .ok (.bipush 64, 2) := by decide +kernel
theorem dX10_cascade_54 : decode cX10_cascade 54 = .ok (.invokevirtual 338, 3) := by decide +kernel
theorem dX10_cascade_57 : decode cX10_cascade 57 = .ok (.ifCond .ne 14, 3) := by decide +kernel
theorem dX10_cascade_60 : decode cX10_cascade 60 = .ok (.new 85, 3) := by decide +kernel
theorem dX10_cascade_63 : decode cX10_cascade 63 = .ok (.dup, 1) := by decide +kernel
theorem dX10_cascade_64 : decode cX10_cascade 64 = .ok (.ldc_w 341, 3) := by decide +kernel
theorem dX10_cascade_67 : decode cX10_cascade 67 = .ok (.invokespecial 89, 3) := by decide +kernel
theorem dX10_cascade_70 : decode cX10_cascade 70 = .ok (.athrow, 1) := by decide +kernel
theorem dX10_cascade_71 : decode cX10_cascade 71 = .ok (.aload_n 0, 1) := by decide +kernel
theorem dX10_cascade_72 : decode cX10_cascade 72 = .ok (.getfield 74, 3) := by decide +kernel
theorem dX10_cascade_75 : decode cX10_cascade 75 = .ok (.aload 5, 2) := by decide +kernel
theorem dX10_cascade_77 : decode cX10_cascade 77 = .ok (.aload_n 0, 1) := by decide +kernel
theorem dX10_cascade_78 : decode cX10_cascade 78 = .ok (.getfield 16, 3) := by decide +kernel
theorem dX10_cascade_81 : decode cX10_cascade 81 = .ok (.getfield 20, 3) := by decide +kernel
theorem dX10_cascade_84 : decode cX10_cascade 84 = .ok (.aload 6, 2) := by decide +kernel
theorem dX10_cascade_86 : decode cX10_cascade 86 = .ok (.aload 7, 2) := by decide +kernel
theorem dX10_cascade_88 : decode cX10_cascade 88 = .ok (.invokevirtual 343, 3) := by decide +kernel
theorem dX10_cascade_91 : decode cX10_cascade 91 = .ok (.ifCond .ne 5, 3) := by decide +kernel
theorem dX10_cascade_94 : decode cX10_cascade 94 = .ok (.iconst (-1), 1) := by decide +kernel
theorem dX10_cascade_95 : decode cX10_cascade 95 = .ok (.ireturn, 1) := by decide +kernel
theorem dX10_cascade_96 : decode cX10_cascade 96 = .ok (.iload 4, 2) := by decide +kernel
theorem dX10_cascade_98 : decode cX10_cascade 98 = .ok (.ifCond .ne 13, 3) := by decide +kernel
theorem dX10_cascade_101 : decode cX10_cascade 101 = .ok (.aload_n 0, 1) := by decide +kernel
theorem dX10_cascade_102 : decode cX10_cascade 102 = .ok (.getfield 74, 3) := by decide +kernel
theorem dX10_cascade_105 : decode cX10_cascade 105 = .ok (.getfield 347, 3) := by decide +kernel
theorem dX10_cascade_108 : decode cX10_cascade 108 = .ok (.goto 26, 3) := by decide +kernel
theorem dX10_cascade_111 : decode cX10_cascade 111 = .ok (.iload 4, 2) := by decide +kernel
theorem dX10_cascade_113 : decode cX10_cascade 113 = .ok (.iconst 1, 1) := by decide +kernel
theorem dX10_cascade_114 : decode cX10_cascade 114 = .ok (.if_icmp .ne 13, 3) := by decide +kernel
theorem dX10_cascade_117 : decode cX10_cascade 117 = .ok (.aload_n 0, 1) := by decide +kernel
theorem dX10_cascade_118 : decode cX10_cascade 118 = .ok (.getfield 74, 3) := by decide +kernel
theorem dX10_cascade_121 : decode cX10_cascade 121 = .ok (.getfield 350, 3) := by decide +kernel
theorem dX10_cascade_124 : decode cX10_cascade 124 = .ok (.goto 10, 3) := by decide +kernel
theorem dX10_cascade_127 : decode cX10_cascade 127 = .ok (.aload_n 0, 1) := by decide +kernel
theorem dX10_cascade_128 : decode cX10_cascade 128 = .ok (.getfield 74, 3) := by decide +kernel
theorem dX10_cascade_131 : decode cX10_cascade 131 = .ok (.getfield 353, 3) := by decide +kernel
theorem dX10_cascade_134 : decode cX10_cascade 134 = .ok (.ireturn, 1) := by decide +kernel
theorem dX10_learn_0 : decode cX10_learn 0 = .ok (.aload_n 0, 1) := by decide +kernel
theorem dX10_learn_1 : decode cX10_learn 1 = .ok (.iload_n 1, 1) := by decide +kernel
theorem dX10_learn_2 : decode cX10_learn 2 = .ok (.invokevirtual 167, 3) := by decide +kernel
theorem dX10_learn_5 : decode cX10_learn 5 = .ok (.astore 4, 2) := by decide +kernel
theorem dX10_learn_7 : decode cX10_learn 7 = .ok (.aload_n 0, 1) := by decide +kernel
theorem dX10_learn_8 : decode cX10_learn 8 = .ok (.iload_n 2, 1) := by decide +kernel
theorem dX10_learn_9 : decode cX10_learn 9 = .ok (.invokevirtual 285, 3) := by decide +kernel
theorem dX10_learn_12 : decode cX10_learn 12 = .ok (.astore 5, 2) := by decide +kernel
theorem dX10_learn_14 : decode cX10_learn 14 = .ok (.aload 4, 2) := by decide +kernel
theorem dX10_learn_16 : decode cX10_learn 16 = .ok (.iconst 0, 1) := by decide +kernel
theorem dX10_learn_17 : decode cX10_learn 17 = .ok (.invokestatic 213, 3) := by decide +kernel
theorem dX10_learn_20 : decode cX10_learn 20 = .ok (.aload 5, 2) := by decide +kernel
theorem dX10_learn_22 : decode cX10_learn 22 = .ok (.invokestatic 289, 3) := by decide +kernel
theorem dX10_learn_25 : decode cX10_learn 25 = .ok (.iload_n 3, 1) := by decide +kernel
theorem dX10_learn_26 : decode cX10_learn 26 = .ok (.iconst 2, 1) := by decide +kernel
theorem dX10_learn_27 : decode cX10_learn 27 = .ok (.invokestatic 335, 3) := by decide +kernel
theorem dX10_learn_30 : decode cX10_learn 30 = .ok (.aload_n 0, 1) := by decide +kernel
theorem dX10_learn_31 : decode cX10_learn 31 = .ok (.aload 5, 2) := by decide +kernel
theorem dX10_learn_33 : decode cX10_learn 33 = .ok (.invokevirtual 293, 3) := by decide +kernel
theorem dX10_learn_36 : decode cX10_learn 36 = .ok (.aload_n 0, 1) := by decide +kernel
theorem dX10_learn_37 : decode cX10_learn 37 = .ok (.getfield 67, 3) := by decide +kernel
theorem dX10_learn_40 : decode cX10_learn 40 = .ok (.aload 4, 2) := by decide +kernel
theorem dX10_learn_42 : decode cX10_learn 42 = .ok (.aload_n 0, 1) := by decide +kernel
theorem dX10_learn_43 : decode cX10_learn 43 = .ok (.getfield 16, 3) := by decide +kernel
theorem dX10_learn_46 : decode cX10_learn 46 = .ok (.getfield 20, 3) := by decide +kernel
theorem dX10_learn_49 : decode cX10_learn 49 = .ok (.aload 5, 2) := by decide +kernel
theorem dX10_learn_51 : decode cX10_learn 51 = .ok (.invokevirtual 356, 3) := by decide +kernel
theorem dX10_learn_54 : decode cX10_learn 54 = .ok (.iload_n 3, 1) := by decide +kernel
theorem dX10_learn_55 : decode cX10_learn 55 = .ok (.ifCond .ne 13, 3) := by decide +kernel
theorem dX10_learn_58 : decode cX10_learn 58 = .ok (.aload_n 0, 1) := by decide +kernel
theorem dX10_learn_59 : decode cX10_learn 59 = .ok (.getfield 67, 3) := by decide +kernel
theorem dX10_learn_62 : decode cX10_learn 62 = .ok (.invokevirtual 360, 3) := by decide +kernel
theorem dX10_learn_65 : decode cX10_learn 65 = .ok (.goto 20, 3) := by decide +kernel
theorem dX10_learn_68 : decode cX10_learn 68 = .ok (.aload_n 0, 1) := by decide +kernel
theorem dX10_learn_69 : decode cX10_learn 69 = .ok (.getfield 67, 3) := by decide +kernel
theorem dX10_learn_72 : decode cX10_learn 72 = .ok (.iload_n 3, 1) := by decide +kernel
theorem dX10_learn_73 : decode cX10_learn 73 = .ok (.iconst 2, 1) := by decide +kernel
theorem dX10_learn_74 : decode cX10_learn 74 = .ok (.if_icmp .ne 7, 3) := by decide +kernel
theorem dX10_learn_77 : decode cX10_learn 77 = .ok (.iconst 1, 1) := by decide +kernel
theorem dX10_learn_78 : decode cX10_learn 78 = .ok (.goto 4, 3) := by decide +kernel
theorem dX10_learn_81 : decode cX10_learn 81 = .ok (.iconst 0, 1) := by decide +kernel
theorem dX10_learn_82 : decode cX10_learn 82 = .ok (.invokevirtual 363, 3) := by decide +kernel
theorem dX10_learn_85 : decode cX10_learn 85 = .ok (.ireturn, 1) := by decide +kernel
theorem dX10_ask_0 : decode cX10_ask 0 = .ok (.aload_n 0, 1) := by decide +kernel
theorem dX10_ask_1 : decode cX10_ask 1 = .ok (.iload_n 1, 1) := by decide +kernel
theorem dX10_ask_2 : decode cX10_ask 2 = .ok (.invokevirtual 167, 3) := by decide +kernel
theorem dX10_ask_5 : decode cX10_ask 5 = .ok (.astore_n 3, 1) := by decide +kernel
theorem dX10_ask_6 : decode cX10_ask 6 = .ok (.aload_n 0, 1) := by decide +kernel
theorem dX10_ask_7 : decode cX10_ask 7 = .ok (.iload_n 2, 1) := by decide +kernel
theorem dX10_ask_8 : decode cX10_ask 8 = .ok (.invokevirtual 285, 3) := by decide +kernel
theorem dX10_ask_11 : decode cX10_ask 11 = .ok (.astore 4, 2) := by decide +kernel
theorem dX10_ask_13 : decode cX10_ask 13 = .ok (.aload_n 3, 1) := by decide +kernel
theorem dX10_ask_14 : decode cX10_ask 14 = .ok (.iconst 0, 1) := by decide +kernel
theorem dX10_ask_15 : decode cX10_ask 15 = .ok (.invokestatic 213, 3) := by decide +kernel
theorem dX10_ask_18 : decode cX10_ask 18 = .ok (.aload 4, 2) := by decide +kernel
theorem dX10_ask_20 : decode cX10_ask 20 = .ok (.invokestatic 289, 3) := by decide +kernel
theorem dX10_ask_23 : decode cX10_ask 23 = .ok (.aload_n 0, 1) := by decide +kernel
theorem dX10_ask_24 : decode cX10_ask 24 = .ok (.aload 4, 2) := by decide +kernel
theorem dX10_ask_26 : decode cX10_ask 26 = .ok (.invokevirtual 293, 3) := by decide +kernel
theorem dX10_ask_29 : decode cX10_ask 29 = .ok (.aload_n 0, 1) := by decide +kernel
theorem dX10_ask_30 : decode cX10_ask 30 = .ok (.getfield 67, 3) := by decide +kernel
theorem dX10_ask_33 : decode cX10_ask 33 = .ok (.aload_n 3, 1) := by decide +kernel
theorem dX10_ask_34 : decode cX10_ask 34 = .ok (.aload_n 0, 1) := by decide +kernel
theorem dX10_ask_35 : decode cX10_ask 35 = .ok (.getfield 16, 3) := by decide +kernel
theorem dX10_ask_38 : decode cX10_ask 38 = .ok (.getfield 20, 3) := by decide +kernel
theorem dX10_ask_41 : decode cX10_ask 41 = .ok (.aload 4, 2) := by decide +kernel
theorem dX10_ask_43 : decode cX10_ask 43 = .ok (.invokevirtual 356, 3) := by decide +kernel
theorem dX10_ask_46 : decode cX10_ask 46 = .ok (.aload_n 0, 1) := by decide +kernel
theorem dX10_ask_47 : decode cX10_ask 47 = .ok (.getfield 67, 3) := by decide +kernel
theorem dX10_ask_50 : decode cX10_ask 50 = .ok (.invokevirtual 367, 3) := by decide +kernel
theorem dX10_ask_53 : decode cX10_ask 53 = .ok (.ireturn, 1) := by decide +kernel
theorem dX10_worst_0 : decode cX10_worst 0 = .ok (.aload_n 0, 1) := by decide +kernel
theorem dX10_worst_1 : decode cX10_worst 1 = .ok (.iload_n 1, 1) := by decide +kernel
theorem dX10_worst_2 : decode cX10_worst 2 = .ok (.invokevirtual 167, 3) := by decide +kernel
theorem dX10_worst_5 : decode cX10_worst 5 = .ok (.astore_n 3, 1) := by decide +kernel
theorem dX10_worst_6 : decode cX10_worst 6 = .ok (.aload_n 3, 1) := by decide +kernel
theorem dX10_worst_7 : decode cX10_worst 7 = .ok (.iconst 0, 1) := by decide +kernel
theorem dX10_worst_8 : decode cX10_worst 8 = .ok (.invokestatic 213, 3) := by decide +kernel
theorem dX10_worst_11 : decode cX10_worst 11 = .ok (.iload_n 2, 1) := by decide +kernel
theorem dX10_worst_12 : decode cX10_worst 12 = .ok (.iconst 1, 1) := by decide +kernel
theorem dX10_worst_13 : decode cX10_worst 13 = .ok (.invokestatic 335, 3) := by decide +kernel
theorem dX10_worst_16 : decode cX10_worst 16 = .ok (.aload_n 0, 1) := by decide +kernel
theorem dX10_worst_17 : decode cX10_worst 17 = .ok (.getfield 67, 3) := by decide +kernel
theorem dX10_worst_20 : decode cX10_worst 20 = .ok (.aload_n 3, 1) := by decide +kernel
theorem dX10_worst_21 : decode cX10_worst 21 = .ok (.aload_n 0, 1) := by decide +kernel
theorem dX10_worst_22 : decode cX10_worst 22 = .ok (.getfield 16, 3) := by decide +kernel
theorem dX10_worst_25 : decode cX10_worst 25 = .ok (.getfield 20, 3) := by decide +kernel
theorem dX10_worst_28 : decode cX10_worst 28 = .ok (.invokevirtual 370, 3) := by decide +kernel
theorem dX10_worst_31 : decode cX10_worst 31 = .ok (.ifCond .ne 5, 3) := by decide +kernel
theorem dX10_worst_34 : decode cX10_worst 34 = .ok (.iconst (-1), 1) := by decide +kernel
theorem dX10_worst_35 : decode cX10_worst 35 = .ok (.ireturn, 1) := by decide +kernel
theorem dX10_worst_36 : decode cX10_worst 36 = .ok (.iload_n 2, 1) := by decide +kernel
theorem dX10_worst_37 : decode cX10_worst 37 = .ok (.ifCond .ne 13, 3) := by decide +kernel
theorem dX10_worst_40 : decode cX10_worst 40 = .ok (.aload_n 0, 1) := by decide +kernel
theorem dX10_worst_41 : decode cX10_worst 41 = .ok (.getfield 67, 3) := by decide +kernel
theorem dX10_worst_44 : decode cX10_worst 44 = .ok (.getfield 373, 3) := by decide +kernel
theorem dX10_worst_47 : decode cX10_worst 47 = .ok (.goto 10, 3) := by decide +kernel
theorem dX10_worst_50 : decode cX10_worst 50 = .ok (.aload_n 0, 1) := by decide +kernel
theorem dX10_worst_51 : decode cX10_worst 51 = .ok (.getfield 67, 3) := by decide +kernel
theorem dX10_worst_54 : decode cX10_worst 54 = .ok (.getfield 376, 3) := by decide +kernel
theorem dX10_worst_57 : decode cX10_worst 57 = .ok (.ireturn, 1) := by decide +kernel
theorem dX10_blame_0 : decode cX10_blame 0 = .ok (.aload_n 0, 1) := by decide +kernel
theorem dX10_blame_1 : decode cX10_blame 1 = .ok (.iload_n 1, 1) := by decide +kernel
theorem dX10_blame_2 : decode cX10_blame 2 = .ok (.invokevirtual 167, 3) := by decide +kernel
theorem dX10_blame_5 : decode cX10_blame 5 = .ok (.astore_n 3, 1) := by decide +kernel
theorem dX10_blame_6 : decode cX10_blame 6 = .ok (.aload_n 3, 1) := by decide +kernel
theorem dX10_blame_7 : decode cX10_blame 7 = .ok (.iconst 0, 1) := by decide +kernel
theorem dX10_blame_8 : decode cX10_blame 8 = .ok (.invokestatic 213, 3) := by decide +kernel
theorem dX10_blame_11 : decode cX10_blame 11 = .ok (.aload_n 0, 1) := by decide +kernel
theorem dX10_blame_12 : decode cX10_blame 12 = .ok (.iload_n 2, 1) := by decide +kernel
theorem dX10_blame_13 : decode cX10_blame 13 = .ok (.i2l, 1) := by decide +kernel
theorem dX10_blame_14 : decode cX10_blame 14 = .ok (.invokevirtual 137, 3) := by decide +kernel
theorem dX10_blame_17 : decode cX10_blame 17 = .ok (.aload_n 0, 1) := by decide +kernel
theorem dX10_blame_18 : decode cX10_blame 18 = .ok (.getfield 67, 3) := by decide +kernel
theorem dX10_blame_21 : decode cX10_blame 21 = .ok (.aload_n 3, 1) := by decide +kernel
theorem dX10_blame_22 : decode cX10_blame 22 = .ok (.aload_n 0, 1) := by decide +kernel
theorem dX10_blame_23 : decode cX10_blame 23 = .ok (.getfield 16, 3) := by decide +kernel
theorem dX10_blame_26 : decode cX10_blame 26 = .ok (.getfield 20, 3) := by decide +kernel
theorem dX10_blame_29 : decode cX10_blame 29 = .ok (.iload_n 2, 1) := by decide +kernel
theorem dX10_blame_30 : decode cX10_blame 30 = .ok (.invokevirtual 379, 3) := by decide +kernel
theorem dX10_blame_33 : decode cX10_blame 33 = .ok (.ireturn, 1) := by decide +kernel
theorem dX10_choose_0 : decode cX10_choose 0 = .ok (.aload_n 0, 1) := by decide +kernel
theorem dX10_choose_1 : decode cX10_choose 1 = .ok (.iload_n 1, 1) := by decide +kernel
theorem dX10_choose_2 : decode cX10_choose 2 = .ok (.invokevirtual 167, 3) := by decide +kernel
theorem dX10_choose_5 : decode cX10_choose 5 = .ok (.astore 4, 2) := by decide +kernel
theorem dX10_choose_7 : decode cX10_choose 7 = .ok (.iload_n 2, 1) := by decide +kernel
theorem dX10_choose_8 : decode cX10_choose 8 = .ok (.ifCond .lt 10, 3) := by decide +kernel
theorem dX10_choose_11 : decode cX10_choose 11 = .ok (.iload_n 2, 1) := by decide +kernel
theorem dX10_choose_12 : decode cX10_choose 12 = .ok (.sipush 999, 3) := by decide +kernel
theorem dX10_choose_15 : decode cX10_choose 15 = .ok (.if_icmp .le 14, 3) := by decide +kernel
theorem dX10_choose_18 : decode cX10_choose 18 = .ok (.new 85, 3) := by decide +kernel
theorem dX10_choose_21 : decode cX10_choose 21 = .ok (.dup, 1) := by decide +kernel
theorem dX10_choose_22 : decode cX10_choose 22 = .ok (.ldc_w 383, 3) := by decide +kernel
theorem dX10_choose_25 : decode cX10_choose 25 = .ok (.invokespecial 89, 3) := by decide +kernel
theorem dX10_choose_28 : decode cX10_choose 28 = .ok (.athrow, 1) := by decide +kernel
theorem dX10_choose_29 : decode cX10_choose 29 = .ok (.iload_n 3, 1) := by decide +kernel
theorem dX10_choose_30 : decode cX10_choose 30 = .ok (.iconst 2, 1) := by decide +kernel
theorem dX10_choose_31 : decode cX10_choose 31 = .ok (.invokestatic 335, 3) := by decide +kernel
theorem dX10_choose_34 : decode cX10_choose 34 = .ok (.aload_n 0, 1) := by decide +kernel
theorem dX10_choose_35 : decode cX10_choose 35 = .ok (.getfield 67, 3) := by decide +kernel
theorem dX10_choose_38 : decode cX10_choose 38 = .ok (.aload 4, 2) := by decide +kernel
theorem dX10_choose_40 : decode cX10_choose 40 = .ok (.aload_n 0, 1) := by decide +kernel
theorem dX10_choose_41 : decode cX10_choose 41 = .ok (.getfield 16, 3) := by decide +kernel
theorem dX10_choose_44 : decode cX10_choose 44 = .ok (.getfield 20, 3) := by decide +kernel
theorem dX10_choose_47 : decode cX10_choose 47 = .ok (.iload_n 2, 1) := by decide +kernel
theorem dX10_choose_48 : decode cX10_choose 48 = .ok (.invokevirtual 385, 3) := by decide +kernel
theorem dX10_choose_51 : decode cX10_choose 51 = .ok (.ifCond .ne 5, 3) := by decide +kernel
theorem dX10_choose_54 : decode cX10_choose 54 = .ok (.iconst (-1), 1) := by decide +kernel
theorem dX10_choose_55 : decode cX10_choose 55 = .ok (.ireturn, 1) := by decide +kernel
theorem dX10_choose_56 : decode cX10_choose 56 = .ok (.iload_n 3, 1) := by decide +kernel
theorem dX10_choose_57 : decode cX10_choose 57 = .ok (.ifCond .ne 13, 3) := by decide +kernel
theorem dX10_choose_60 : decode cX10_choose 60 = .ok (.aload_n 0, 1) := by decide +kernel
theorem dX10_choose_61 : decode cX10_choose 61 = .ok (.getfield 67, 3) := by decide +kernel
theorem dX10_choose_64 : decode cX10_choose 64 = .ok (.getfield 388, 3) := by decide +kernel
theorem dX10_choose_67 : decode cX10_choose 67 = .ok (.goto 25, 3) := by decide +kernel
theorem dX10_choose_70 : decode cX10_choose 70 = .ok (.iload_n 3, 1) := by decide +kernel
theorem dX10_choose_71 : decode cX10_choose 71 = .ok (.iconst 1, 1) := by decide +kernel
theorem dX10_choose_72 : decode cX10_choose 72 = .ok (.if_icmp .ne 13, 3) := by decide +kernel
theorem dX10_choose_75 : decode cX10_choose 75 = .ok (.aload_n 0, 1) := by decide +kernel
theorem dX10_choose_76 : decode cX10_choose 76 = .ok (.getfield 67, 3) := by decide +kernel
theorem dX10_choose_79 : decode cX10_choose 79 = .ok (.getfield 391, 3) := by decide +kernel
theorem dX10_choose_82 : decode cX10_choose 82 = .ok (.goto 10, 3) := by decide +kernel
theorem dX10_choose_85 : decode cX10_choose 85 = .ok (.aload_n 0, 1) := by decide +kernel
theorem dX10_choose_86 : decode cX10_choose 86 = .ok (.getfield 67, 3) := by decide +kernel
theorem dX10_choose_89 : decode cX10_choose 89 = .ok (.getfield 376, 3) := by decide +kernel
theorem dX10_choose_92 : decode cX10_choose 92 = .ok (.ireturn, 1) := by decide +kernel
theorem dX10_tray_0 : decode cX10_tray 0 = .ok (.aload_n 0, 1) := by decide +kernel
theorem dX10_tray_1 : decode cX10_tray 1 = .ok (.iload_n 1, 1) := by decide +kernel
theorem dX10_tray_2 : decode cX10_tray 2 = .ok (.invokevirtual 285, 3) := by decide +kernel
theorem dX10_tray_5 : decode cX10_tray 5 = .ok (.astore 4, 2) := by decide +kernel
theorem dX10_tray_7 : decode cX10_tray 7 = .ok (.iload_n 2, 1) := by decide +kernel
theorem dX10_tray_8 : decode cX10_tray 8 = .ok (.ifCond .lt 18, 3) := by decide +kernel
theorem dX10_tray_11 : decode cX10_tray 11 = .ok (.iload_n 2, 1) := by decide +kernel
theorem dX10_tray_12 : decode cX10_tray 12 = .ok (.iconst 3, 1) := by decide +kernel
theorem dX10_tray_13 : decode cX10_tray 13 = .ok (.if_icmp .gt 13, 3) := by decide +kernel
theorem dX10_tray_16 : decode cX10_tray 16 = .ok (.iload_n 3, 1) := by decide +kernel
theorem dX10_tray_17 : decode cX10_tray 17 = .ok (.ifCond .lt 9, 3) := by decide +kernel
theorem dX10_tray_20 : decode cX10_tray 20 = .ok (.iload_n 3, 1) := by decide +kernel
theorem dX10_tray_21 : decode cX10_tray 21 = .ok (.bipush 40, 2) := by decide +kernel
theorem dX10_tray_23 : decode cX10_tray 23 = .ok (.if_icmp .le 14, 3) := by decide +kernel
theorem dX10_tray_26 : decode cX10_tray 26 = .ok (.new 85, 3) := by decide +kernel
theorem dX10_tray_29 : decode cX10_tray 29 = .ok (.dup, 1) := by decide +kernel
theorem dX10_tray_30 : decode cX10_tray 30 = .ok (.ldc_w 394, 3) := by decide +kernel
theorem dX10_tray_33 : decode cX10_tray 33 = .ok (.invokespecial 89, 3) := by decide +kernel
theorem dX10_tray_36 : decode cX10_tray 36 = .ok (.athrow, 1) := by decide +kernel
theorem dX10_tray_37 : decode cX10_tray 37 = .ok (.aload 4, 2) := by decide +kernel
theorem dX10_tray_39 : decode cX10_tray 39 = .ok (.iload_n 2, 1) := by decide +kernel
theorem dX10_tray_40 : decode cX10_tray 40 = .ok (.iload_n 3, 1) := by decide +kernel
theorem dX10_tray_41 : decode cX10_tray 41 = .ok (.invokevirtual 396, 3) := by decide +kernel
theorem dX10_tray_44 : decode cX10_tray 44 = .ok (.return_, 1) := by decide +kernel
theorem dX10_write_0 : decode cX10_write 0 = .ok (.aload_n 0, 1) := by decide +kernel
theorem dX10_write_1 : decode cX10_write 1 = .ok (.iload_n 1, 1) := by decide +kernel
theorem dX10_write_2 : decode cX10_write 2 = .ok (.invokevirtual 285, 3) := by decide +kernel
theorem dX10_write_5 : decode cX10_write 5 = .ok (.astore 5, 2) := by decide +kernel
theorem dX10_write_7 : decode cX10_write 7 = .ok (.aload 5, 2) := by decide +kernel
theorem dX10_write_9 : decode cX10_write 9 = .ok (.invokestatic 289, 3) := by decide +kernel
theorem dX10_write_12 : decode cX10_write 12 = .ok (.iload_n 2, 1) := by decide +kernel
theorem dX10_write_13 : decode cX10_write 13 = .ok (.ifCond .lt 12, 3) := by decide +kernel
theorem dX10_write_16 : decode cX10_write 16 = .ok (.iload_n 2, 1) := by decide +kernel
theorem dX10_write_17 : decode cX10_write 17 = .ok (.aload 5, 2) := by decide +kernel
theorem dX10_write_19 : decode cX10_write 19 = .ok (.getfield 305, 3) := by decide +kernel
theorem dX10_write_22 : decode cX10_write 22 = .ok (.if_icmp .lt 14, 3) := by decide +kernel
theorem dX10_write_25 : decode cX10_write 25 = .ok (.new 202, 3) := by decide +kernel
theorem dX10_write_28 : decode cX10_write 28 = .ok (.dup, 1) := by decide +kernel
theorem dX10_write_29 : decode cX10_write 29 = .ok (.ldc_w 398, 3) := by decide +kernel
theorem dX10_write_32 : decode cX10_write 32 = .ok (.invokespecial 206, 3) := by decide +kernel
theorem dX10_write_35 : decode cX10_write 35 = .ok (.athrow, 1) := by decide +kernel
theorem dX10_write_36 : decode cX10_write 36 = .ok (.aload 5, 2) := by decide +kernel
theorem dX10_write_38 : decode cX10_write 38 = .ok (.iload_n 2, 1) := by decide +kernel
theorem dX10_write_39 : decode cX10_write 39 = .ok (.lload_n 3, 1) := by decide +kernel
theorem dX10_write_40 : decode cX10_write 40 = .ok (.invokevirtual 400, 3) := by decide +kernel
theorem dX10_write_43 : decode cX10_write 43 = .ok (.lreturn, 1) := by decide +kernel
theorem dX10_pour_0 : decode cX10_pour 0 = .ok (.aload_n 0, 1) := by decide +kernel
theorem dX10_pour_1 : decode cX10_pour 1 = .ok (.iload_n 1, 1) := by decide +kernel
theorem dX10_pour_2 : decode cX10_pour 2 = .ok (.invokevirtual 167, 3) := by decide +kernel
theorem dX10_pour_5 : decode cX10_pour 5 = .ok (.astore_n 3, 1) := by decide +kernel
theorem dX10_pour_6 : decode cX10_pour 6 = .ok (.aload_n 0, 1) := by decide +kernel
theorem dX10_pour_7 : decode cX10_pour 7 = .ok (.iload_n 2, 1) := by decide +kernel
theorem dX10_pour_8 : decode cX10_pour 8 = .ok (.invokevirtual 285, 3) := by decide +kernel
theorem dX10_pour_11 : decode cX10_pour 11 = .ok (.astore 4, 2) := by decide +kernel
theorem dX10_pour_13 : decode cX10_pour 13 = .ok (.aload_n 3, 1) := by decide +kernel
theorem dX10_pour_14 : decode cX10_pour 14 = .ok (.invokestatic 230, 3) := by decide +kernel
theorem dX10_pour_17 : decode cX10_pour 17 = .ok (.aload 4, 2) := by decide +kernel
theorem dX10_pour_19 : decode cX10_pour 19 = .ok (.invokestatic 289, 3) := by decide +kernel
theorem dX10_pour_22 : decode cX10_pour 22 = .ok (.iconst 0, 1) := by decide +kernel
theorem dX10_pour_23 : decode cX10_pour 23 = .ok (.istore 5, 2) := by decide +kernel
theorem dX10_pour_25 : decode cX10_pour 25 = .ok (.iconst 0, 1) := by decide +kernel
theorem dX10_pour_26 : decode cX10_pour 26 = .ok (.istore 6, 2) := by decide +kernel
theorem dX10_pour_28 : decode cX10_pour 28 = .ok (.iload 6, 2) := by decide +kernel
theorem dX10_pour_30 : decode cX10_pour 30 = .ok (.aload 4, 2) := by decide +kernel
theorem dX10_pour_32 : decode cX10_pour 32 = .ok (.getfield 305, 3) := by decide +kernel
theorem dX10_pour_35 : decode cX10_pour 35 = .ok (.if_icmp .ge 45, 3) := by decide +kernel
theorem dX10_pour_38 : decode cX10_pour 38 = .ok (.aload 4, 2) := by decide +kernel
theorem dX10_pour_40 : decode cX10_pour 40 = .ok (.iload 6, 2) := by decide +kernel
theorem dX10_pour_42 : decode cX10_pour 42 = .ok (.invokevirtual 327, 3) := by decide +kernel
theorem dX10_pour_45 : decode cX10_pour 45 = .ok (.lstore 7, 2) := by decide +kernel
theorem dX10_pour_47 : decode cX10_pour 47 = .ok (.aload_n 0, 1) := by decide +kernel
theorem dX10_pour_48 : decode cX10_pour 48 = .ok (.lload 7, 2) := by decide +kernel
theorem dX10_pour_50 : decode cX10_pour 50 = .ok (.invokevirtual 331, 3) := by decide +kernel
theorem dX10_pour_53 : decode cX10_pour 53 = .ok (.ifCond .eq 15, 3) := by decide +kernel
theorem dX10_pour_56 : decode cX10_pour 56 = .ok (.aload_n 0, 1) := by decide +kernel
theorem dX10_pour_57 : decode cX10_pour 57 = .ok (.aload_n 3, 1) := by decide +kernel
theorem dX10_pour_58 : decode cX10_pour 58 = .ok (.lload 7, 2) := by decide +kernel
theorem dX10_pour_60 : decode cX10_pour 60 = .ok (.l2i, 1) := by decide +kernel
theorem dX10_pour_61 : decode cX10_pour 61 = .ok (.invokevirtual 234, 3) := by decide +kernel
theorem dX10_pour_64 : decode cX10_pour 64 = .ok (.iconst (-1), 1) := by decide +kernel
theorem dX10_pour_65 : decode cX10_pour 65 = .ok (.if_icmp .ne 6, 3) := by decide +kernel
theorem dX10_pour_68 : decode cX10_pour 68 = .ok (.iload 5, 2) := by decide +kernel
theorem dX10_pour_70 : decode cX10_pour 70 = .ok (.ireturn, 1) := by decide +kernel
theorem dX10_pour_71 : decode cX10_pour 71 = .ok (.iinc 5 1, 3) := by decide +kernel
theorem dX10_pour_74 : decode cX10_pour 74 = .ok (.iinc 6 1, 3) := by decide +kernel
theorem dX10_pour_77 : decode cX10_pour 77 = .ok (.goto (-49), 3) := by decide +kernel
theorem dX10_pour_80 : decode cX10_pour 80 = .ok (.iload 5, 2) := by decide +kernel
theorem dX10_pour_82 : decode cX10_pour 82 = .ok (.ireturn, 1) := by decide +kernel
theorem dX10_image_0 : decode cX10_image 0 = .ok (.aload_n 0, 1) := by decide +kernel
theorem dX10_image_1 : decode cX10_image 1 = .ok (.iload_n 1, 1) := by decide +kernel
theorem dX10_image_2 : decode cX10_image 2 = .ok (.invokevirtual 404, 3) := by decide +kernel
theorem dX10_image_5 : decode cX10_image 5 = .ok (.aload_n 0, 1) := by decide +kernel
theorem dX10_image_6 : decode cX10_image 6 = .ok (.getfield 16, 3) := by decide +kernel
theorem dX10_image_9 : decode cX10_image 9 = .ok (.invokevirtual 408, 3) := by decide +kernel
theorem dX10_image_12 : decode cX10_image 12 = .ok (.aload_n 0, 1) := by decide +kernel
theorem dX10_image_13 : decode cX10_image 13 = .ok (.dup, 1) := by decide +kernel
theorem dX10_image_14 : decode cX10_image 14 = .ok (.getfield 411, 3) := by decide +kernel
theorem dX10_image_17 : decode cX10_image 17 = .ok (.iconst 1, 1) := by decide +kernel
theorem dX10_image_18 : decode cX10_image 18 = .ok (.iload_n 1, 1) := by decide +kernel
theorem dX10_image_19 : decode cX10_image 19 = .ok (.ishl, 1) := by decide +kernel
theorem dX10_image_20 : decode cX10_image 20 = .ok (.ior, 1) := by decide +kernel
theorem dX10_image_21 : decode cX10_image 21 = .ok (.putfield 411, 3) := by decide +kernel
theorem dX10_image_24 : decode cX10_image 24 = .ok (.return_, 1) := by decide +kernel
theorem dX10_restore_0 : decode cX10_restore 0 = .ok (.aload_n 0, 1) := by decide +kernel
theorem dX10_restore_1 : decode cX10_restore 1 = .ok (.iload_n 1, 1) := by decide +kernel
theorem dX10_restore_2 : decode cX10_restore 2 = .ok (.invokevirtual 404, 3) := by decide +kernel
theorem dX10_restore_5 : decode cX10_restore 5 = .ok (.astore_n 2, 1) := by decide +kernel
theorem dX10_restore_6 : decode cX10_restore 6 = .ok (.aload_n 0, 1) := by decide +kernel
theorem dX10_restore_7 : decode cX10_restore 7 = .ok (.getfield 411, 3) := by decide +kernel
theorem dX10_restore_10 : decode cX10_restore 10 = .ok (.iload_n 1, 1) := by decide +kernel
theorem dX10_restore_11 : decode cX10_restore 11 = .ok (.ishr, 1) := by decide +kernel
theorem dX10_restore_12 : decode cX10_restore 12 = .ok (.iconst 1, 1) := by decide +kernel
theorem dX10_restore_13 : decode cX10_restore 13 = .ok (.iand, 1) := by decide +kernel
theorem dX10_restore_14 : decode cX10_restore 14 = .ok (.ifCond .ne 14, 3) := by decide +kernel
theorem dX10_restore_17 : decode cX10_restore 17 = .ok (.new 248, 3) := by decide +kernel
theorem dX10_restore_20 : decode cX10_restore 20 = .ok (.dup, 1) := by decide +kernel
theorem dX10_restore_21 : decode cX10_restore 21 = .ok (.ldc_w 414, 3) := by decide +kernel
theorem dX10_restore_24 : decode cX10_restore 24 = .ok (.invokespecial 252, 3) := by decide +kernel
theorem dX10_restore_27 : decode cX10_restore 27 = .ok (.athrow, 1) := by decide +kernel
theorem dX10_restore_28 : decode cX10_restore 28 = .ok (.aload_n 0, 1) := by decide +kernel
theorem dX10_restore_29 : decode cX10_restore 29 = .ok (.getfield 16, 3) := by decide +kernel
theorem dX10_restore_32 : decode cX10_restore 32 = .ok (.aload_n 2, 1) := by decide +kernel
theorem dX10_restore_33 : decode cX10_restore 33 = .ok (.invokevirtual 408, 3) := by decide +kernel
theorem dX10_restore_36 : decode cX10_restore 36 = .ok (.return_, 1) := by decide +kernel
theorem dX10_count_0 : decode cX10_count 0 = .ok (.iload_n 1, 1) := by decide +kernel
theorem dX10_count_1 : decode cX10_count 1 = .ok (.tableswitch 99 0 5 #[39, 50, 61, 72, 83, 91], 39) := by decide +kernel
theorem dX10_count_40 : decode cX10_count 40 = .ok (.aload_n 0, 1) := by decide +kernel
theorem dX10_count_41 : decode cX10_count 41 = .ok (.getfield 16, 3) := by decide +kernel
theorem dX10_count_44 : decode cX10_count 44 = .ok (.getfield 20, 3) := by decide +kernel
theorem dX10_count_47 : decode cX10_count 47 = .ok (.getfield 113, 3) := by decide +kernel
theorem dX10_count_50 : decode cX10_count 50 = .ok (.ireturn, 1) := by decide +kernel
theorem dX10_count_51 : decode cX10_count 51 = .ok (.aload_n 0, 1) := by decide +kernel
theorem dX10_count_52 : decode cX10_count 52 = .ok (.getfield 16, 3) := by decide +kernel
theorem dX10_count_55 : decode cX10_count 55 = .ok (.getfield 20, 3) := by decide +kernel
theorem dX10_count_58 : decode cX10_count 58 = .ok (.getfield 311, 3) := by decide +kernel
theorem dX10_count_61 : decode cX10_count 61 = .ok (.ireturn, 1) := by decide +kernel
theorem dX10_count_62 : decode cX10_count 62 = .ok (.aload_n 0, 1) := by decide +kernel
theorem dX10_count_63 : decode cX10_count 63 = .ok (.getfield 16, 3) := by decide +kernel
theorem dX10_count_66 : decode cX10_count 66 = .ok (.getfield 20, 3) := by decide +kernel
theorem dX10_count_69 : decode cX10_count 69 = .ok (.getfield 416, 3) := by decide +kernel
theorem dX10_count_72 : decode cX10_count 72 = .ok (.ireturn, 1) := by decide +kernel
theorem dX10_count_73 : decode cX10_count 73 = .ok (.aload_n 0, 1) := by decide +kernel
theorem dX10_count_74 : decode cX10_count 74 = .ok (.getfield 16, 3) := by decide +kernel
theorem dX10_count_77 : decode cX10_count 77 = .ok (.getfield 20, 3) := by decide +kernel
theorem dX10_count_80 : decode cX10_count 80 = .ok (.getfield 127, 3) := by decide +kernel
theorem dX10_count_83 : decode cX10_count 83 = .ok (.ireturn, 1) := by decide +kernel
theorem dX10_count_84 : decode cX10_count 84 = .ok (.aload_n 0, 1) := by decide +kernel
theorem dX10_count_85 : decode cX10_count 85 = .ok (.getfield 16, 3) := by decide +kernel
theorem dX10_count_88 : decode cX10_count 88 = .ok (.invokevirtual 419, 3) := by decide +kernel
theorem dX10_count_91 : decode cX10_count 91 = .ok (.ireturn, 1) := by decide +kernel
theorem dX10_count_92 : decode cX10_count 92 = .ok (.aload_n 0, 1) := by decide +kernel
theorem dX10_count_93 : decode cX10_count 93 = .ok (.getfield 46, 3) := by decide +kernel
theorem dX10_count_96 : decode cX10_count 96 = .ok (.getfield 78, 3) := by decide +kernel
theorem dX10_count_99 : decode cX10_count 99 = .ok (.ireturn, 1) := by decide +kernel
theorem dX10_count_100 : decode cX10_count 100 = .ok (.iconst (-1), 1) := by decide +kernel
theorem dX10_count_101 : decode cX10_count 101 = .ok (.ireturn, 1) := by decide +kernel
theorem dX10_rowAt_0 : decode cX10_rowAt 0 = .ok (.iload_n 1, 1) := by decide +kernel
theorem dX10_rowAt_1 : decode cX10_rowAt 1 = .ok (.ifCond .lt 23, 3) := by decide +kernel
theorem dX10_rowAt_4 : decode cX10_rowAt 4 = .ok (.iload_n 1, 1) := by decide +kernel
theorem dX10_rowAt_5 : decode cX10_rowAt 5 = .ok (.iconst 4, 1) := by decide +kernel
theorem dX10_rowAt_6 : decode cX10_rowAt 6 = .ok (.if_icmp .ge 18, 3) := by decide +kernel
theorem dX10_rowAt_9 : decode cX10_rowAt 9 = .ok (.aload_n 0, 1) := by decide +kernel
theorem dX10_rowAt_10 : decode cX10_rowAt 10 = .ok (.getfield 16, 3) := by decide +kernel
theorem dX10_rowAt_13 : decode cX10_rowAt 13 = .ok (.getfield 157, 3) := by decide +kernel
theorem dX10_rowAt_16 : decode cX10_rowAt 16 = .ok (.iload_n 1, 1) := by decide +kernel
theorem dX10_rowAt_17 : decode cX10_rowAt 17 = .ok (.aaload, 1) := by decide +kernel
theorem dX10_rowAt_18 : decode cX10_rowAt 18 = .ok (.getfield 422, 3) := by decide +kernel
theorem dX10_rowAt_21 : decode cX10_rowAt 21 = .ok (.ifCond .ne 14, 3) := by decide +kernel
theorem dX10_rowAt_24 : decode cX10_rowAt 24 = .ok (.new 130, 3) := by decide +kernel
theorem dX10_rowAt_27 : decode cX10_rowAt 27 = .ok (.dup, 1) := by decide +kernel
theorem dX10_rowAt_28 : decode cX10_rowAt 28 = .ok (.ldc_w 426, 3) := by decide +kernel
theorem dX10_rowAt_31 : decode cX10_rowAt 31 = .ok (.invokespecial 134, 3) := by decide +kernel
theorem dX10_rowAt_34 : decode cX10_rowAt 34 = .ok (.athrow, 1) := by decide +kernel
theorem dX10_rowAt_35 : decode cX10_rowAt 35 = .ok (.aload_n 0, 1) := by decide +kernel
theorem dX10_rowAt_36 : decode cX10_rowAt 36 = .ok (.getfield 16, 3) := by decide +kernel
theorem dX10_rowAt_39 : decode cX10_rowAt 39 = .ok (.getfield 157, 3) := by decide +kernel
theorem dX10_rowAt_42 : decode cX10_rowAt 42 = .ok (.iload_n 1, 1) := by decide +kernel
theorem dX10_rowAt_43 : decode cX10_rowAt 43 = .ok (.aaload, 1) := by decide +kernel
theorem dX10_rowAt_44 : decode cX10_rowAt 44 = .ok (.areturn, 1) := by decide +kernel
theorem dX10_trayAt_0 : decode cX10_trayAt 0 = .ok (.iload_n 1, 1) := by decide +kernel
theorem dX10_trayAt_1 : decode cX10_trayAt 1 = .ok (.ifCond .lt 8, 3) := by decide +kernel
theorem dX10_trayAt_4 : decode cX10_trayAt 4 = .ok (.iload_n 1, 1) := by decide +kernel
theorem dX10_trayAt_5 : decode cX10_trayAt 5 = .ok (.iconst 4, 1) := by decide +kernel
theorem dX10_trayAt_6 : decode cX10_trayAt 6 = .ok (.if_icmp .lt 14, 3) := by decide +kernel
theorem dX10_trayAt_9 : decode cX10_trayAt 9 = .ok (.new 130, 3) := by decide +kernel
theorem dX10_trayAt_12 : decode cX10_trayAt 12 = .ok (.dup, 1) := by decide +kernel
theorem dX10_trayAt_13 : decode cX10_trayAt 13 = .ok (.ldc_w 428, 3) := by decide +kernel
theorem dX10_trayAt_16 : decode cX10_trayAt 16 = .ok (.invokespecial 134, 3) := by decide +kernel
theorem dX10_trayAt_19 : decode cX10_trayAt 19 = .ok (.athrow, 1) := by decide +kernel
theorem dX10_trayAt_20 : decode cX10_trayAt 20 = .ok (.aload_n 0, 1) := by decide +kernel
theorem dX10_trayAt_21 : decode cX10_trayAt 21 = .ok (.getfield 38, 3) := by decide +kernel
theorem dX10_trayAt_24 : decode cX10_trayAt 24 = .ok (.iload_n 1, 1) := by decide +kernel
theorem dX10_trayAt_25 : decode cX10_trayAt 25 = .ok (.aaload, 1) := by decide +kernel
theorem dX10_trayAt_26 : decode cX10_trayAt 26 = .ok (.areturn, 1) := by decide +kernel
theorem dX10_imageAt_0 : decode cX10_imageAt 0 = .ok (.iload_n 1, 1) := by decide +kernel
theorem dX10_imageAt_1 : decode cX10_imageAt 1 = .ok (.ifCond .lt 8, 3) := by decide +kernel
theorem dX10_imageAt_4 : decode cX10_imageAt 4 = .ok (.iload_n 1, 1) := by decide +kernel
theorem dX10_imageAt_5 : decode cX10_imageAt 5 = .ok (.iconst 3, 1) := by decide +kernel
theorem dX10_imageAt_6 : decode cX10_imageAt 6 = .ok (.if_icmp .lt 14, 3) := by decide +kernel
theorem dX10_imageAt_9 : decode cX10_imageAt 9 = .ok (.new 130, 3) := by decide +kernel
theorem dX10_imageAt_12 : decode cX10_imageAt 12 = .ok (.dup, 1) := by decide +kernel
theorem dX10_imageAt_13 : decode cX10_imageAt 13 = .ok (.ldc_w 430, 3) := by decide +kernel
theorem dX10_imageAt_16 : decode cX10_imageAt 16 = .ok (.invokespecial 134, 3) := by decide +kernel
theorem dX10_imageAt_19 : decode cX10_imageAt 19 = .ok (.athrow, 1) := by decide +kernel
theorem dX10_imageAt_20 : decode cX10_imageAt 20 = .ok (.aload_n 0, 1) := by decide +kernel
theorem dX10_imageAt_21 : decode cX10_imageAt 21 = .ok (.getfield 32, 3) := by decide +kernel
theorem dX10_imageAt_24 : decode cX10_imageAt 24 = .ok (.iload_n 1, 1) := by decide +kernel
theorem dX10_imageAt_25 : decode cX10_imageAt 25 = .ok (.aaload, 1) := by decide +kernel
theorem dX10_imageAt_26 : decode cX10_imageAt 26 = .ok (.areturn, 1) := by decide +kernel
theorem dX10_needKind_0 : decode cX10_needKind 0 = .ok (.aload_n 0, 1) := by decide +kernel
theorem dX10_needKind_1 : decode cX10_needKind 1 = .ok (.getfield 171, 3) := by decide +kernel
theorem dX10_needKind_4 : decode cX10_needKind 4 = .ok (.iload_n 1, 1) := by decide +kernel
theorem dX10_needKind_5 : decode cX10_needKind 5 = .ok (.if_icmp .eq 14, 3) := by decide +kernel
theorem dX10_needKind_8 : decode cX10_needKind 8 = .ok (.new 248, 3) := by decide +kernel
theorem dX10_needKind_11 : decode cX10_needKind 11 = .ok (.dup, 1) := by decide +kernel
theorem dX10_needKind_12 : decode cX10_needKind 12 = .ok (.ldc_w 432, 3) := by decide +kernel
theorem dX10_needKind_15 : decode cX10_needKind 15 = .ok (.invokespecial 252, 3) := by decide +kernel
theorem dX10_needKind_18 : decode cX10_needKind 18 = .ok (.athrow, 1) := by decide +kernel
theorem dX10_needKind_19 : decode cX10_needKind 19 = .ok (.return_, 1) := by decide +kernel
theorem dX10_needUnsolved_0 : decode cX10_needUnsolved 0 = .ok (.aload_n 0, 1) := by decide +kernel
theorem dX10_needUnsolved_1 : decode cX10_needUnsolved 1 = .ok (.getfield 171, 3) := by decide +kernel
theorem dX10_needUnsolved_4 : decode cX10_needUnsolved 4 = .ok (.iconst 4, 1) := by decide +kernel
theorem dX10_needUnsolved_5 : decode cX10_needUnsolved 5 = .ok (.if_icmp .ne 14, 3) := by decide +kernel
theorem dX10_needUnsolved_8 : decode cX10_needUnsolved 8 = .ok (.new 248, 3) := by decide +kernel
theorem dX10_needUnsolved_11 : decode cX10_needUnsolved 11 = .ok (.dup, 1) := by decide +kernel
theorem dX10_needUnsolved_12 : decode cX10_needUnsolved 12 = .ok (.ldc_w 434, 3) := by decide +kernel
theorem dX10_needUnsolved_15 : decode cX10_needUnsolved 15 = .ok (.invokespecial 252, 3) := by decide +kernel
theorem dX10_needUnsolved_18 : decode cX10_needUnsolved 18 = .ok (.athrow, 1) := by decide +kernel
theorem dX10_needUnsolved_19 : decode cX10_needUnsolved 19 = .ok (.return_, 1) := by decide +kernel
theorem dX10_needFilled_0 : decode cX10_needFilled 0 = .ok (.aload_n 0, 1) := by decide +kernel
theorem dX10_needFilled_1 : decode cX10_needFilled 1 = .ok (.getfield 436, 3) := by decide +kernel
theorem dX10_needFilled_4 : decode cX10_needFilled 4 = .ok (.ifCond .ne 14, 3) := by decide +kernel
theorem dX10_needFilled_7 : decode cX10_needFilled 7 = .ok (.new 248, 3) := by decide +kernel
theorem dX10_needFilled_10 : decode cX10_needFilled 10 = .ok (.dup, 1) := by decide +kernel
theorem dX10_needFilled_11 : decode cX10_needFilled 11 = .ok (.ldc_w 437, 3) := by decide +kernel
theorem dX10_needFilled_14 : decode cX10_needFilled 14 = .ok (.invokespecial 252, 3) := by decide +kernel
theorem dX10_needFilled_17 : decode cX10_needFilled 17 = .ok (.athrow, 1) := by decide +kernel
theorem dX10_needFilled_18 : decode cX10_needFilled 18 = .ok (.return_, 1) := by decide +kernel
theorem dX10_needWhat_0 : decode cX10_needWhat 0 = .ok (.iload_n 0, 1) := by decide +kernel
theorem dX10_needWhat_1 : decode cX10_needWhat 1 = .ok (.ifCond .lt 8, 3) := by decide +kernel
theorem dX10_needWhat_4 : decode cX10_needWhat 4 = .ok (.iload_n 0, 1) := by decide +kernel
theorem dX10_needWhat_5 : decode cX10_needWhat 5 = .ok (.iload_n 1, 1) := by decide +kernel
theorem dX10_needWhat_6 : decode cX10_needWhat 6 = .ok (.if_icmp .le 14, 3) := by decide +kernel
theorem dX10_needWhat_9 : decode cX10_needWhat 9 = .ok (.new 85, 3) := by decide +kernel
theorem dX10_needWhat_12 : decode cX10_needWhat 12 = .ok (.dup, 1) := by decide +kernel
theorem dX10_needWhat_13 : decode cX10_needWhat 13 = .ok (.ldc_w 439, 3) := by decide +kernel
theorem dX10_needWhat_16 : decode cX10_needWhat 16 = .ok (.invokespecial 89, 3) := by decide +kernel
theorem dX10_needWhat_19 : decode cX10_needWhat 19 = .ok (.athrow, 1) := by decide +kernel
theorem dX10_needWhat_20 : decode cX10_needWhat 20 = .ok (.return_, 1) := by decide +kernel
theorem dX10_isName_0 : decode cX10_isName 0 = .ok (.lload_n 1, 1) := by decide +kernel
theorem dX10_isName_1 : decode cX10_isName 1 = .ok (.lconst 0, 1) := by decide +kernel
theorem dX10_isName_2 : decode cX10_isName 2 = .ok (.lcmp, 1) := by decide +kernel
theorem dX10_isName_3 : decode cX10_isName 3 = .ok (.ifCond .lt 23, 3) := by decide +kernel
theorem dX10_isName_6 : decode cX10_isName 6 = .ok (.lload_n 1, 1) := by decide +kernel
theorem dX10_isName_7 : decode cX10_isName 7 = .ok (.aload_n 0, 1) := by decide +kernel
theorem dX10_isName_8 : decode cX10_isName 8 = .ok (.getfield 16, 3) := by decide +kernel
theorem dX10_isName_11 : decode cX10_isName 11 = .ok (.getfield 20, 3) := by decide +kernel
theorem dX10_isName_14 : decode cX10_isName 14 = .ok (.getfield 311, 3) := by decide +kernel
theorem dX10_isName_17 : decode cX10_isName 17 = .ok (.i2l, 1) := by decide +kernel
theorem dX10_isName_18 : decode cX10_isName 18 = .ok (.lcmp, 1) := by decide +kernel
theorem dX10_isName_19 : decode cX10_isName 19 = .ok (.ifCond .ge 7, 3) := by decide +kernel
theorem dX10_isName_22 : decode cX10_isName 22 = .ok (.iconst 1, 1) := by decide +kernel
theorem dX10_isName_23 : decode cX10_isName 23 = .ok (.goto 4, 3) := by decide +kernel
theorem dX10_isName_26 : decode cX10_isName 26 = .ok (.iconst 0, 1) := by decide +kernel
theorem dX10_isName_27 : decode cX10_isName 27 = .ok (.ireturn, 1) := by decide +kernel
theorem dX10_needName_0 : decode cX10_needName 0 = .ok (.aload_n 0, 1) := by decide +kernel
theorem dX10_needName_1 : decode cX10_needName 1 = .ok (.lload_n 1, 1) := by decide +kernel
theorem dX10_needName_2 : decode cX10_needName 2 = .ok (.invokevirtual 331, 3) := by decide +kernel
theorem dX10_needName_5 : decode cX10_needName 5 = .ok (.ifCond .ne 14, 3) := by decide +kernel
theorem dX10_needName_8 : decode cX10_needName 8 = .ok (.new 85, 3) := by decide +kernel
theorem dX10_needName_11 : decode cX10_needName 11 = .ok (.dup, 1) := by decide +kernel
theorem dX10_needName_12 : decode cX10_needName 12 = .ok (.ldc_w 441, 3) := by decide +kernel
theorem dX10_needName_15 : decode cX10_needName 15 = .ok (.invokespecial 89, 3) := by decide +kernel
theorem dX10_needName_18 : decode cX10_needName 18 = .ok (.athrow, 1) := by decide +kernel
theorem dX10_needName_19 : decode cX10_needName 19 = .ok (.return_, 1) := by decide +kernel
theorem dX10_needNames_0 : decode cX10_needNames 0 = .ok (.iconst 0, 1) := by decide +kernel
theorem dX10_needNames_1 : decode cX10_needNames 1 = .ok (.istore_n 2, 1) := by decide +kernel
theorem dX10_needNames_2 : decode cX10_needNames 2 = .ok (.iload_n 2, 1) := by decide +kernel
theorem dX10_needNames_3 : decode cX10_needNames 3 = .ok (.aload_n 1, 1) := by decide +kernel
theorem dX10_needNames_4 : decode cX10_needNames 4 = .ok (.getfield 305, 3) := by decide +kernel
theorem dX10_needNames_7 : decode cX10_needNames 7 = .ok (.if_icmp .ge 18, 3) := by decide +kernel
theorem dX10_needNames_10 : decode cX10_needNames 10 = .ok (.aload_n 0, 1) := by decide +kernel
theorem dX10_needNames_11 : decode cX10_needNames 11 = .ok (.aload_n 1, 1) := by decide +kernel
theorem dX10_needNames_12 : decode cX10_needNames 12 = .ok (.iload_n 2, 1) := by decide +kernel
theorem dX10_needNames_13 : decode cX10_needNames 13 = .ok (.invokevirtual 327, 3) := by decide +kernel
theorem dX10_needNames_16 : decode cX10_needNames 16 = .ok (.invokevirtual 137, 3) := by decide +kernel
theorem dX10_needNames_19 : decode cX10_needNames 19 = .ok (.iinc 2 1, 3) := by decide +kernel
theorem dX10_needNames_22 : decode cX10_needNames 22 = .ok (.goto (-20), 3) := by decide +kernel
theorem dX10_needNames_25 : decode cX10_needNames 25 = .ok (.return_, 1) := by decide +kernel
theorem dX10_modulo_0 : decode cX10_modulo 0 = .ok (.iload_n 1, 1) := by decide +kernel
theorem dX10_modulo_1 : decode cX10_modulo 1 = .ok (.iconst 1, 1) := by decide +kernel
theorem dX10_modulo_2 : decode cX10_modulo 2 = .ok (.if_icmp .ge 5, 3) := by decide +kernel
theorem dX10_modulo_5 : decode cX10_modulo 5 = .ok (.iconst 0, 1) := by decide +kernel
theorem dX10_modulo_6 : decode cX10_modulo 6 = .ok (.ireturn, 1) := by decide +kernel
theorem dX10_modulo_7 : decode cX10_modulo 7 = .ok (.iload_n 0, 1) := by decide +kernel
theorem dX10_modulo_8 : decode cX10_modulo 8 = .ok (.iload_n 1, 1) := by decide +kernel
theorem dX10_modulo_9 : decode cX10_modulo 9 = .ok (.irem, 1) := by decide +kernel
theorem dX10_modulo_10 : decode cX10_modulo 10 = .ok (.istore_n 2, 1) := by decide +kernel
theorem dX10_modulo_11 : decode cX10_modulo 11 = .ok (.iload_n 2, 1) := by decide +kernel
theorem dX10_modulo_12 : decode cX10_modulo 12 = .ok (.ifCond .ge 9, 3) := by decide +kernel
theorem dX10_modulo_15 : decode cX10_modulo 15 = .ok (.iload_n 2, 1) := by decide +kernel
theorem dX10_modulo_16 : decode cX10_modulo 16 = .ok (.iload_n 1, 1) := by decide +kernel
theorem dX10_modulo_17 : decode cX10_modulo 17 = .ok (.iadd, 1) := by decide +kernel
theorem dX10_modulo_18 : decode cX10_modulo 18 = .ok (.goto 4, 3) := by decide +kernel
theorem dX10_modulo_21 : decode cX10_modulo 21 = .ok (.iload_n 2, 1) := by decide +kernel
theorem dX10_modulo_22 : decode cX10_modulo 22 = .ok (.ireturn, 1) := by decide +kernel
theorem dJ11_isValidCodePoint_9a6ad_0 : decode cJ11_isValidCodePoint_9a6ad 0 = .ok (.iload_n 0, 1) := by decide +kernel
theorem dJ11_isValidCodePoint_9a6ad_1 : decode cJ11_isValidCodePoint_9a6ad 1 = .ok (.bipush 16, 2) := by decide +kernel
theorem dJ11_isValidCodePoint_9a6ad_3 : decode cJ11_isValidCodePoint_9a6ad 3 = .ok (.iushr, 1) := by decide +kernel
theorem dJ11_isValidCodePoint_9a6ad_4 : decode cJ11_isValidCodePoint_9a6ad 4 = .ok (.istore_n 1, 1) := by decide +kernel
theorem dJ11_isValidCodePoint_9a6ad_5 : decode cJ11_isValidCodePoint_9a6ad 5 = .ok (.iload_n 1, 1) := by decide +kernel
theorem dJ11_isValidCodePoint_9a6ad_6 : decode cJ11_isValidCodePoint_9a6ad 6 = .ok (.bipush 17, 2) := by decide +kernel
theorem dJ11_isValidCodePoint_9a6ad_8 : decode cJ11_isValidCodePoint_9a6ad 8 = .ok (.if_icmp .ge 7, 3) := by decide +kernel
theorem dJ11_isValidCodePoint_9a6ad_11 : decode cJ11_isValidCodePoint_9a6ad 11 = .ok (.iconst 1, 1) := by decide +kernel
theorem dJ11_isValidCodePoint_9a6ad_12 : decode cJ11_isValidCodePoint_9a6ad 12 = .ok (.goto 4, 3) := by decide +kernel
theorem dJ11_isValidCodePoint_9a6ad_15 : decode cJ11_isValidCodePoint_9a6ad 15 = .ok (.iconst 0, 1) := by decide +kernel
theorem dJ11_isValidCodePoint_9a6ad_16 : decode cJ11_isValidCodePoint_9a6ad 16 = .ok (.ireturn, 1) := by decide +kernel
theorem dJ11_highSurrogate_5068e_0 : decode cJ11_highSurrogate_5068e 0 = .ok (.iload_n 0, 1) := by decide +kernel
theorem dJ11_highSurrogate_5068e_1 : decode cJ11_highSurrogate_5068e 1 = .ok (.bipush 10, 2) := by decide +kernel
theorem dJ11_highSurrogate_5068e_3 : decode cJ11_highSurrogate_5068e 3 = .ok (.iushr, 1) := by decide +kernel
theorem dJ11_highSurrogate_5068e_4 : decode cJ11_highSurrogate_5068e 4 = .ok (.ldc 110, 2) := by decide +kernel
theorem dJ11_highSurrogate_5068e_6 : decode cJ11_highSurrogate_5068e 6 = .ok (.iadd, 1) := by decide +kernel
theorem dJ11_highSurrogate_5068e_7 : decode cJ11_highSurrogate_5068e 7 = .ok (.i2c, 1) := by decide +kernel
theorem dJ11_highSurrogate_5068e_8 : decode cJ11_highSurrogate_5068e 8 = .ok (.ireturn, 1) := by decide +kernel
theorem dJ11_lowSurrogate_5068e_0 : decode cJ11_lowSurrogate_5068e 0 = .ok (.iload_n 0, 1) := by decide +kernel
theorem dJ11_lowSurrogate_5068e_1 : decode cJ11_lowSurrogate_5068e 1 = .ok (.sipush 1023, 3) := by decide +kernel
theorem dJ11_lowSurrogate_5068e_4 : decode cJ11_lowSurrogate_5068e 4 = .ok (.iand, 1) := by decide +kernel
theorem dJ11_lowSurrogate_5068e_5 : decode cJ11_lowSurrogate_5068e 5 = .ok (.ldc 76, 2) := by decide +kernel
theorem dJ11_lowSurrogate_5068e_7 : decode cJ11_lowSurrogate_5068e 7 = .ok (.iadd, 1) := by decide +kernel
theorem dJ11_lowSurrogate_5068e_8 : decode cJ11_lowSurrogate_5068e 8 = .ok (.i2c, 1) := by decide +kernel
theorem dJ11_lowSurrogate_5068e_9 : decode cJ11_lowSurrogate_5068e 9 = .ok (.ireturn, 1) := by decide +kernel
theorem dJ13_bitCount_95d88_0 : decode cJ13_bitCount_95d88 0 = .ok (.lload_n 0, 1) := by decide +kernel
theorem dJ13_bitCount_95d88_1 : decode cJ13_bitCount_95d88 1 = .ok (.lload_n 0, 1) := by decide +kernel
theorem dJ13_bitCount_95d88_2 : decode cJ13_bitCount_95d88 2 = .ok (.iconst 1, 1) := by decide +kernel
theorem dJ13_bitCount_95d88_3 : decode cJ13_bitCount_95d88 3 = .ok (.lushr, 1) := by decide +kernel
theorem dJ13_bitCount_95d88_4 : decode cJ13_bitCount_95d88 4 = .ok (.ldc2_w 314, 3) := by decide +kernel
theorem dJ13_bitCount_95d88_7 : decode cJ13_bitCount_95d88 7 = .ok (.land, 1) := by decide +kernel
theorem dJ13_bitCount_95d88_8 : decode cJ13_bitCount_95d88 8 = .ok (.lsub, 1) := by decide +kernel
theorem dJ13_bitCount_95d88_9 : decode cJ13_bitCount_95d88 9 = .ok (.lstore_n 0, 1) := by decide +kernel
theorem dJ13_bitCount_95d88_10 : decode cJ13_bitCount_95d88 10 = .ok (.lload_n 0, 1) := by decide +kernel
theorem dJ13_bitCount_95d88_11 : decode cJ13_bitCount_95d88 11 = .ok (.ldc2_w 316, 3) := by decide +kernel
theorem dJ13_bitCount_95d88_14 : decode cJ13_bitCount_95d88 14 = .ok (.land, 1) := by decide +kernel
theorem dJ13_bitCount_95d88_15 : decode cJ13_bitCount_95d88 15 = .ok (.lload_n 0, 1) := by decide +kernel
theorem dJ13_bitCount_95d88_16 : decode cJ13_bitCount_95d88 16 = .ok (.iconst 2, 1) := by decide +kernel
theorem dJ13_bitCount_95d88_17 : decode cJ13_bitCount_95d88 17 = .ok (.lushr, 1) := by decide +kernel
theorem dJ13_bitCount_95d88_18 : decode cJ13_bitCount_95d88 18 = .ok (.ldc2_w 316, 3) := by decide +kernel
theorem dJ13_bitCount_95d88_21 : decode cJ13_bitCount_95d88 21 = .ok (.land, 1) := by decide +kernel
theorem dJ13_bitCount_95d88_22 : decode cJ13_bitCount_95d88 22 = .ok (.ladd, 1) := by decide +kernel
theorem dJ13_bitCount_95d88_23 : decode cJ13_bitCount_95d88 23 = .ok (.lstore_n 0, 1) := by decide +kernel
theorem dJ13_bitCount_95d88_24 : decode cJ13_bitCount_95d88 24 = .ok (.lload_n 0, 1) := by decide +kernel
theorem dJ13_bitCount_95d88_25 : decode cJ13_bitCount_95d88 25 = .ok (.lload_n 0, 1) := by decide +kernel
theorem dJ13_bitCount_95d88_26 : decode cJ13_bitCount_95d88 26 = .ok (.iconst 4, 1) := by decide +kernel
theorem dJ13_bitCount_95d88_27 : decode cJ13_bitCount_95d88 27 = .ok (.lushr, 1) := by decide +kernel
theorem dJ13_bitCount_95d88_28 : decode cJ13_bitCount_95d88 28 = .ok (.ladd, 1) := by decide +kernel
theorem dJ13_bitCount_95d88_29 : decode cJ13_bitCount_95d88 29 = .ok (.ldc2_w 318, 3) := by decide +kernel
theorem dJ13_bitCount_95d88_32 : decode cJ13_bitCount_95d88 32 = .ok (.land, 1) := by decide +kernel
theorem dJ13_bitCount_95d88_33 : decode cJ13_bitCount_95d88 33 = .ok (.lstore_n 0, 1) := by decide +kernel
theorem dJ13_bitCount_95d88_34 : decode cJ13_bitCount_95d88 34 = .ok (.lload_n 0, 1) := by decide +kernel
theorem dJ13_bitCount_95d88_35 : decode cJ13_bitCount_95d88 35 = .ok (.lload_n 0, 1) := by decide +kernel
theorem dJ13_bitCount_95d88_36 : decode cJ13_bitCount_95d88 36 = .ok (.bipush 8, 2) := by decide +kernel
theorem dJ13_bitCount_95d88_38 : decode cJ13_bitCount_95d88 38 = .ok (.lushr, 1) := by decide +kernel
theorem dJ13_bitCount_95d88_39 : decode cJ13_bitCount_95d88 39 = .ok (.ladd, 1) := by decide +kernel
theorem dJ13_bitCount_95d88_40 : decode cJ13_bitCount_95d88 40 = .ok (.lstore_n 0, 1) := by decide +kernel
theorem dJ13_bitCount_95d88_41 : decode cJ13_bitCount_95d88 41 = .ok (.lload_n 0, 1) := by decide +kernel
theorem dJ13_bitCount_95d88_42 : decode cJ13_bitCount_95d88 42 = .ok (.lload_n 0, 1) := by decide +kernel
theorem dJ13_bitCount_95d88_43 : decode cJ13_bitCount_95d88 43 = .ok (.bipush 16, 2) := by decide +kernel
theorem dJ13_bitCount_95d88_45 : decode cJ13_bitCount_95d88 45 = .ok (.lushr, 1) := by decide +kernel
theorem dJ13_bitCount_95d88_46 : decode cJ13_bitCount_95d88 46 = .ok (.ladd, 1) := by decide +kernel
theorem dJ13_bitCount_95d88_47 : decode cJ13_bitCount_95d88 47 = .ok (.lstore_n 0, 1) := by decide +kernel
theorem dJ13_bitCount_95d88_48 : decode cJ13_bitCount_95d88 48 = .ok (.lload_n 0, 1) := by decide +kernel
theorem dJ13_bitCount_95d88_49 : decode cJ13_bitCount_95d88 49 = .ok (.lload_n 0, 1) := by decide +kernel
theorem dJ13_bitCount_95d88_50 : decode cJ13_bitCount_95d88 50 = .ok (.bipush 32, 2) := by decide +kernel
theorem dJ13_bitCount_95d88_52 : decode cJ13_bitCount_95d88 52 = .ok (.lushr, 1) := by decide +kernel
theorem dJ13_bitCount_95d88_53 : decode cJ13_bitCount_95d88 53 = .ok (.ladd, 1) := by decide +kernel
theorem dJ13_bitCount_95d88_54 : decode cJ13_bitCount_95d88 54 = .ok (.lstore_n 0, 1) := by decide +kernel
theorem dJ13_bitCount_95d88_55 : decode cJ13_bitCount_95d88 55 = .ok (.lload_n 0, 1) := by decide +kernel
theorem dJ13_bitCount_95d88_56 : decode cJ13_bitCount_95d88 56 = .ok (.l2i, 1) := by decide +kernel
theorem dJ13_bitCount_95d88_57 : decode cJ13_bitCount_95d88 57 = .ok (.bipush 127, 2) := by decide +kernel
theorem dJ13_bitCount_95d88_59 : decode cJ13_bitCount_95d88 59 = .ok (.iand, 1) := by decide +kernel
theorem dJ13_bitCount_95d88_60 : decode cJ13_bitCount_95d88 60 = .ok (.ireturn, 1) := by decide +kernel
theorem dJ9_max_7cf53_0 : decode cJ9_max_7cf53 0 = .ok (.iload_n 0, 1) := by decide +kernel
theorem dJ9_max_7cf53_1 : decode cJ9_max_7cf53 1 = .ok (.iload_n 1, 1) := by decide +kernel
theorem dJ9_max_7cf53_2 : decode cJ9_max_7cf53 2 = .ok (.if_icmp .lt 7, 3) := by decide +kernel
theorem dJ9_max_7cf53_5 : decode cJ9_max_7cf53 5 = .ok (.iload_n 0, 1) := by decide +kernel
theorem dJ9_max_7cf53_6 : decode cJ9_max_7cf53 6 = .ok (.goto 4, 3) := by decide +kernel
theorem dJ9_max_7cf53_9 : decode cJ9_max_7cf53 9 = .ok (.iload_n 1, 1) := by decide +kernel
theorem dJ9_max_7cf53_10 : decode cJ9_max_7cf53 10 = .ok (.ireturn, 1) := by decide +kernel
theorem dJ9_min_7cf53_0 : decode cJ9_min_7cf53 0 = .ok (.iload_n 0, 1) := by decide +kernel
theorem dJ9_min_7cf53_1 : decode cJ9_min_7cf53 1 = .ok (.iload_n 1, 1) := by decide +kernel
theorem dJ9_min_7cf53_2 : decode cJ9_min_7cf53 2 = .ok (.if_icmp .gt 7, 3) := by decide +kernel
theorem dJ9_min_7cf53_5 : decode cJ9_min_7cf53 5 = .ok (.iload_n 0, 1) := by decide +kernel
theorem dJ9_min_7cf53_6 : decode cJ9_min_7cf53 6 = .ok (.goto 4, 3) := by decide +kernel
theorem dJ9_min_7cf53_9 : decode cJ9_min_7cf53 9 = .ok (.iload_n 1, 1) := by decide +kernel
theorem dJ9_min_7cf53_10 : decode cJ9_min_7cf53 10 = .ok (.ireturn, 1) := by decide +kernel
theorem dJ0_length_8abf5_0 : decode cJ0_length_8abf5 0 = .ok (.aload_n 0, 1) := by decide +kernel
theorem dJ0_length_8abf5_1 : decode cJ0_length_8abf5 1 = .ok (.getfield 9, 3) := by decide +kernel
theorem dJ0_length_8abf5_4 : decode cJ0_length_8abf5 4 = .ok (.arraylength, 1) := by decide +kernel
theorem dJ0_length_8abf5_5 : decode cJ0_length_8abf5 5 = .ok (.aload_n 0, 1) := by decide +kernel
theorem dJ0_length_8abf5_6 : decode cJ0_length_8abf5 6 = .ok (.invokevirtual 335, 3) := by decide +kernel
theorem dJ0_length_8abf5_9 : decode cJ0_length_8abf5 9 = .ok (.ishr, 1) := by decide +kernel
theorem dJ0_length_8abf5_10 : decode cJ0_length_8abf5 10 = .ok (.ireturn, 1) := by decide +kernel
theorem dJ0_charAt_5068e_0 : decode cJ0_charAt_5068e 0 = .ok (.aload_n 0, 1) := by decide +kernel
theorem dJ0_charAt_5068e_1 : decode cJ0_charAt_5068e 1 = .ok (.invokevirtual 492, 3) := by decide +kernel
theorem dJ0_charAt_5068e_4 : decode cJ0_charAt_5068e 4 = .ok (.ifCond .eq 12, 3) := by decide +kernel
theorem dJ0_charAt_5068e_7 : decode cJ0_charAt_5068e 7 = .ok (.aload_n 0, 1) := by decide +kernel
theorem dJ0_charAt_5068e_8 : decode cJ0_charAt_5068e 8 = .ok (.getfield 9, 3) := by decide +kernel
theorem dJ0_charAt_5068e_11 : decode cJ0_charAt_5068e 11 = .ok (.iload_n 1, 1) := by decide +kernel
theorem dJ0_charAt_5068e_12 : decode cJ0_charAt_5068e 12 = .ok (.invokestatic 495, 3) := by decide +kernel
theorem dJ0_charAt_5068e_15 : decode cJ0_charAt_5068e 15 = .ok (.ireturn, 1) := by decide +kernel
theorem dJ0_charAt_5068e_16 : decode cJ0_charAt_5068e 16 = .ok (.aload_n 0, 1) := by decide +kernel
theorem dJ0_charAt_5068e_17 : decode cJ0_charAt_5068e 17 = .ok (.getfield 9, 3) := by decide +kernel
theorem dJ0_charAt_5068e_20 : decode cJ0_charAt_5068e 20 = .ok (.iload_n 1, 1) := by decide +kernel
theorem dJ0_charAt_5068e_21 : decode cJ0_charAt_5068e 21 = .ok (.invokestatic 498, 3) := by decide +kernel
theorem dJ0_charAt_5068e_24 : decode cJ0_charAt_5068e 24 = .ok (.ireturn, 1) := by decide +kernel
theorem dJ0_indexOf_0f7a4_0 : decode cJ0_indexOf_0f7a4 0 = .ok (.aload_n 0, 1) := by decide +kernel
theorem dJ0_indexOf_0f7a4_1 : decode cJ0_indexOf_0f7a4 1 = .ok (.iload_n 1, 1) := by decide +kernel
theorem dJ0_indexOf_0f7a4_2 : decode cJ0_indexOf_0f7a4 2 = .ok (.iconst 0, 1) := by decide +kernel
theorem dJ0_indexOf_0f7a4_3 : decode cJ0_indexOf_0f7a4 3 = .ok (.invokevirtual 633, 3) := by decide +kernel
theorem dJ0_indexOf_0f7a4_6 : decode cJ0_indexOf_0f7a4 6 = .ok (.ireturn, 1) := by decide +kernel
theorem dJ0_indexOf_7cf53_0 : decode cJ0_indexOf_7cf53 0 = .ok (.aload_n 0, 1) := by decide +kernel
theorem dJ0_indexOf_7cf53_1 : decode cJ0_indexOf_7cf53 1 = .ok (.invokevirtual 492, 3) := by decide +kernel
theorem dJ0_indexOf_7cf53_4 : decode cJ0_indexOf_7cf53 4 = .ok (.ifCond .eq 19, 3) := by decide +kernel
theorem dJ0_indexOf_7cf53_7 : decode cJ0_indexOf_7cf53 7 = .ok (.aload_n 0, 1) := by decide +kernel
theorem dJ0_indexOf_7cf53_8 : decode cJ0_indexOf_7cf53 8 = .ok (.getfield 9, 3) := by decide +kernel
theorem dJ0_indexOf_7cf53_11 : decode cJ0_indexOf_7cf53 11 = .ok (.iload_n 1, 1) := by decide +kernel
theorem dJ0_indexOf_7cf53_12 : decode cJ0_indexOf_7cf53 12 = .ok (.iload_n 2, 1) := by decide +kernel
theorem dJ0_indexOf_7cf53_13 : decode cJ0_indexOf_7cf53 13 = .ok (.aload_n 0, 1) := by decide +kernel
theorem dJ0_indexOf_7cf53_14 : decode cJ0_indexOf_7cf53 14 = .ok (.invokevirtual 505, 3) := by decide +kernel
theorem dJ0_indexOf_7cf53_17 : decode cJ0_indexOf_7cf53 17 = .ok (.invokestatic 637, 3) := by decide +kernel
theorem dJ0_indexOf_7cf53_20 : decode cJ0_indexOf_7cf53 20 = .ok (.goto 16, 3) := by decide +kernel
theorem dJ0_indexOf_7cf53_23 : decode cJ0_indexOf_7cf53 23 = .ok (.aload_n 0, 1) := by decide +kernel
theorem dJ0_indexOf_7cf53_24 : decode cJ0_indexOf_7cf53 24 = .ok (.getfield 9, 3) := by decide +kernel
theorem dJ0_indexOf_7cf53_27 : decode cJ0_indexOf_7cf53 27 = .ok (.iload_n 1, 1) := by decide +kernel
theorem dJ0_indexOf_7cf53_28 : decode cJ0_indexOf_7cf53 28 = .ok (.iload_n 2, 1) := by decide +kernel
theorem dJ0_indexOf_7cf53_29 : decode cJ0_indexOf_7cf53 29 = .ok (.aload_n 0, 1) := by decide +kernel
theorem dJ0_indexOf_7cf53_30 : decode cJ0_indexOf_7cf53 30 = .ok (.invokevirtual 505, 3) := by decide +kernel
theorem dJ0_indexOf_7cf53_33 : decode cJ0_indexOf_7cf53 33 = .ok (.invokestatic 640, 3) := by decide +kernel
theorem dJ0_indexOf_7cf53_36 : decode cJ0_indexOf_7cf53 36 = .ok (.ireturn, 1) := by decide +kernel
theorem dJ0_coder_7d493_0 : decode cJ0_coder_7d493 0 = .ok (.getstatic 38, 3) := by decide +kernel
theorem dJ0_coder_7d493_3 : decode cJ0_coder_7d493 3 = .ok (.ifCond .eq 10, 3) := by decide +kernel
theorem dJ0_coder_7d493_6 : decode cJ0_coder_7d493 6 = .ok (.aload_n 0, 1) := by decide +kernel
theorem dJ0_coder_7d493_7 : decode cJ0_coder_7d493 7 = .ok (.getfield 15, 3) := by decide +kernel
theorem dJ0_coder_7d493_10 : decode cJ0_coder_7d493 10 = .ok (.goto 4, 3) := by decide +kernel
theorem dJ0_coder_7d493_13 : decode cJ0_coder_7d493 13 = .ok (.iconst 1, 1) := by decide +kernel
theorem dJ0_coder_7d493_14 : decode cJ0_coder_7d493 14 = .ok (.ireturn, 1) := by decide +kernel
theorem dJ0_isLatin1_aae02_0 : decode cJ0_isLatin1_aae02 0 = .ok (.getstatic 38, 3) := by decide +kernel
theorem dJ0_isLatin1_aae02_3 : decode cJ0_isLatin1_aae02 3 = .ok (.ifCond .eq 14, 3) := by decide +kernel
theorem dJ0_isLatin1_aae02_6 : decode cJ0_isLatin1_aae02 6 = .ok (.aload_n 0, 1) := by decide +kernel
theorem dJ0_isLatin1_aae02_7 : decode cJ0_isLatin1_aae02 7 = .ok (.getfield 15, 3) := by decide +kernel
theorem dJ0_isLatin1_aae02_10 : decode cJ0_isLatin1_aae02 10 = .ok (.ifCond .ne 7, 3) := by decide +kernel
theorem dJ0_isLatin1_aae02_13 : decode cJ0_isLatin1_aae02 13 = .ok (.iconst 1, 1) := by decide +kernel
theorem dJ0_isLatin1_aae02_14 : decode cJ0_isLatin1_aae02 14 = .ok (.goto 4, 3) := by decide +kernel
theorem dJ0_isLatin1_aae02_17 : decode cJ0_isLatin1_aae02 17 = .ok (.iconst 0, 1) := by decide +kernel
theorem dJ0_isLatin1_aae02_18 : decode cJ0_isLatin1_aae02 18 = .ok (.ireturn, 1) := by decide +kernel
theorem dJ0_checkIndex_df160_0 : decode cJ0_checkIndex_df160 0 = .ok (.iload_n 0, 1) := by decide +kernel
theorem dJ0_checkIndex_df160_1 : decode cJ0_checkIndex_df160 1 = .ok (.iload_n 1, 1) := by decide +kernel
theorem dJ0_checkIndex_df160_2 : decode cJ0_checkIndex_df160 2 = .ok (.getstatic 1053, 3) := by decide +kernel
theorem dJ0_checkIndex_df160_5 : decode cJ0_checkIndex_df160 5 = .ok (.invokestatic 1059, 3) := by decide +kernel
theorem dJ0_checkIndex_df160_8 : decode cJ0_checkIndex_df160 8 = .ok (.pop, 1) := by decide +kernel
theorem dJ0_checkIndex_df160_9 : decode cJ0_checkIndex_df160 9 = .ok (.return_, 1) := by decide +kernel
theorem dJ0_checkBoundsBeginEnd_23922_0 : decode cJ0_checkBoundsBeginEnd_23922 0 = .ok (.iload_n 0, 1) := by decide +kernel
theorem dJ0_checkBoundsBeginEnd_23922_1 : decode cJ0_checkBoundsBeginEnd_23922 1 = .ok (.iload_n 1, 1) := by decide +kernel
theorem dJ0_checkBoundsBeginEnd_23922_2 : decode cJ0_checkBoundsBeginEnd_23922 2 = .ok (.iload_n 2, 1) := by decide +kernel
theorem dJ0_checkBoundsBeginEnd_23922_3 : decode cJ0_checkBoundsBeginEnd_23922 3 = .ok (.getstatic 1053, 3) := by decide +kernel
theorem dJ0_checkBoundsBeginEnd_23922_6 : decode cJ0_checkBoundsBeginEnd_23922 6 = .ok (.invokestatic 1062, 3) := by decide +kernel
theorem dJ0_checkBoundsBeginEnd_23922_9 : decode cJ0_checkBoundsBeginEnd_23922 9 = .ok (.pop, 1) := by decide +kernel
theorem dJ0_checkBoundsBeginEnd_23922_10 : decode cJ0_checkBoundsBeginEnd_23922 10 = .ok (.return_, 1) := by decide +kernel
theorem dJ1_charAt_3b067_0 : decode cJ1_charAt_3b067 0 = .ok (.iload_n 1, 1) := by decide +kernel
theorem dJ1_charAt_3b067_1 : decode cJ1_charAt_3b067 1 = .ok (.aload_n 0, 1) := by decide +kernel
theorem dJ1_charAt_3b067_2 : decode cJ1_charAt_3b067 2 = .ok (.arraylength, 1) := by decide +kernel
theorem dJ1_charAt_3b067_3 : decode cJ1_charAt_3b067 3 = .ok (.invokestatic 9, 3) := by decide +kernel
theorem dJ1_charAt_3b067_6 : decode cJ1_charAt_3b067 6 = .ok (.aload_n 0, 1) := by decide +kernel
theorem dJ1_charAt_3b067_7 : decode cJ1_charAt_3b067 7 = .ok (.iload_n 1, 1) := by decide +kernel
theorem dJ1_charAt_3b067_8 : decode cJ1_charAt_3b067 8 = .ok (.baload, 1) := by decide +kernel
theorem dJ1_charAt_3b067_9 : decode cJ1_charAt_3b067 9 = .ok (.sipush 255, 3) := by decide +kernel
theorem dJ1_charAt_3b067_12 : decode cJ1_charAt_3b067 12 = .ok (.iand, 1) := by decide +kernel
theorem dJ1_charAt_3b067_13 : decode cJ1_charAt_3b067 13 = .ok (.i2c, 1) := by decide +kernel
theorem dJ1_charAt_3b067_14 : decode cJ1_charAt_3b067 14 = .ok (.ireturn, 1) := by decide +kernel
theorem dJ1_canEncode_9a6ad_0 : decode cJ1_canEncode_9a6ad 0 = .ok (.iload_n 0, 1) := by decide +kernel
theorem dJ1_canEncode_9a6ad_1 : decode cJ1_canEncode_9a6ad 1 = .ok (.ifCond .lt 14, 3) := by decide +kernel
theorem dJ1_canEncode_9a6ad_4 : decode cJ1_canEncode_9a6ad 4 = .ok (.iload_n 0, 1) := by decide +kernel
theorem dJ1_canEncode_9a6ad_5 : decode cJ1_canEncode_9a6ad 5 = .ok (.sipush 255, 3) := by decide +kernel
theorem dJ1_canEncode_9a6ad_8 : decode cJ1_canEncode_9a6ad 8 = .ok (.if_icmp .gt 7, 3) := by decide +kernel
theorem dJ1_canEncode_9a6ad_11 : decode cJ1_canEncode_9a6ad 11 = .ok (.iconst 1, 1) := by decide +kernel
theorem dJ1_canEncode_9a6ad_12 : decode cJ1_canEncode_9a6ad 12 = .ok (.goto 4, 3) := by decide +kernel
theorem dJ1_canEncode_9a6ad_15 : decode cJ1_canEncode_9a6ad 15 = .ok (.iconst 0, 1) := by decide +kernel
theorem dJ1_canEncode_9a6ad_16 : decode cJ1_canEncode_9a6ad 16 = .ok (.ireturn, 1) := by decide +kernel
theorem dJ1_indexOf_4cfef_0 : decode cJ1_indexOf_4cfef 0 = .ok (.iload_n 1, 1) := by decide +kernel
theorem dJ1_indexOf_4cfef_1 : decode cJ1_indexOf_4cfef 1 = .ok (.invokestatic 88, 3) := by decide +kernel
theorem dJ1_indexOf_4cfef_4 : decode cJ1_indexOf_4cfef 4 = .ok (.ifCond .ne 5, 3) := by decide +kernel
theorem dJ1_indexOf_4cfef_7 : decode cJ1_indexOf_4cfef 7 = .ok (.iconst (-1), 1) := by decide +kernel
theorem dJ1_indexOf_4cfef_8 : decode cJ1_indexOf_4cfef 8 = .ok (.ireturn, 1) := by decide +kernel
theorem dJ1_indexOf_4cfef_9 : decode cJ1_indexOf_4cfef 9 = .ok (.iload_n 2, 1) := by decide +kernel
theorem dJ1_indexOf_4cfef_10 : decode cJ1_indexOf_4cfef 10 = .ok (.iconst 0, 1) := by decide +kernel
theorem dJ1_indexOf_4cfef_11 : decode cJ1_indexOf_4cfef 11 = .ok (.invokestatic 92, 3) := by decide +kernel
theorem dJ1_indexOf_4cfef_14 : decode cJ1_indexOf_4cfef 14 = .ok (.istore_n 2, 1) := by decide +kernel
theorem dJ1_indexOf_4cfef_15 : decode cJ1_indexOf_4cfef 15 = .ok (.iload_n 3, 1) := by decide +kernel
theorem dJ1_indexOf_4cfef_16 : decode cJ1_indexOf_4cfef 16 = .ok (.aload_n 0, 1) := by decide +kernel
theorem dJ1_indexOf_4cfef_17 : decode cJ1_indexOf_4cfef 17 = .ok (.arraylength, 1) := by decide +kernel
theorem dJ1_indexOf_4cfef_18 : decode cJ1_indexOf_4cfef 18 = .ok (.invokestatic 38, 3) := by decide +kernel
theorem dJ1_indexOf_4cfef_21 : decode cJ1_indexOf_4cfef 21 = .ok (.istore_n 3, 1) := by decide +kernel
theorem dJ1_indexOf_4cfef_22 : decode cJ1_indexOf_4cfef 22 = .ok (.iload_n 2, 1) := by decide +kernel
theorem dJ1_indexOf_4cfef_23 : decode cJ1_indexOf_4cfef 23 = .ok (.iload_n 3, 1) := by decide +kernel
theorem dJ1_indexOf_4cfef_24 : decode cJ1_indexOf_4cfef 24 = .ok (.if_icmp .lt 5, 3) := by decide +kernel
theorem dJ1_indexOf_4cfef_27 : decode cJ1_indexOf_4cfef 27 = .ok (.iconst (-1), 1) := by decide +kernel
theorem dJ1_indexOf_4cfef_28 : decode cJ1_indexOf_4cfef 28 = .ok (.ireturn, 1) := by decide +kernel
theorem dJ1_indexOf_4cfef_29 : decode cJ1_indexOf_4cfef 29 = .ok (.aload_n 0, 1) := by decide +kernel
theorem dJ1_indexOf_4cfef_30 : decode cJ1_indexOf_4cfef 30 = .ok (.iload_n 1, 1) := by decide +kernel
theorem dJ1_indexOf_4cfef_31 : decode cJ1_indexOf_4cfef 31 = .ok (.iload_n 2, 1) := by decide +kernel
theorem dJ1_indexOf_4cfef_32 : decode cJ1_indexOf_4cfef 32 = .ok (.iload_n 3, 1) := by decide +kernel
theorem dJ1_indexOf_4cfef_33 : decode cJ1_indexOf_4cfef 33 = .ok (.invokestatic 95, 3) := by decide +kernel
theorem dJ1_indexOf_4cfef_36 : decode cJ1_indexOf_4cfef 36 = .ok (.ireturn, 1) := by decide +kernel
theorem dJ1_indexOfChar_4cfef_0 : decode cJ1_indexOfChar_4cfef 0 = .ok (.iload_n 1, 1) := by decide +kernel
theorem dJ1_indexOfChar_4cfef_1 : decode cJ1_indexOfChar_4cfef 1 = .ok (.i2b, 1) := by decide +kernel
theorem dJ1_indexOfChar_4cfef_2 : decode cJ1_indexOfChar_4cfef 2 = .ok (.istore 4, 2) := by decide +kernel
theorem dJ1_indexOfChar_4cfef_4 : decode cJ1_indexOfChar_4cfef 4 = .ok (.iload_n 2, 1) := by decide +kernel
theorem dJ1_indexOfChar_4cfef_5 : decode cJ1_indexOfChar_4cfef 5 = .ok (.istore 5, 2) := by decide +kernel
theorem dJ1_indexOfChar_4cfef_7 : decode cJ1_indexOfChar_4cfef 7 = .ok (.iload 5, 2) := by decide +kernel
theorem dJ1_indexOfChar_4cfef_9 : decode cJ1_indexOfChar_4cfef 9 = .ok (.iload_n 3, 1) := by decide +kernel
theorem dJ1_indexOfChar_4cfef_10 : decode cJ1_indexOfChar_4cfef 10 = .ok (.if_icmp .ge 21, 3) := by decide +kernel
theorem dJ1_indexOfChar_4cfef_13 : decode cJ1_indexOfChar_4cfef 13 = .ok (.aload_n 0, 1) := by decide +kernel
theorem dJ1_indexOfChar_4cfef_14 : decode cJ1_indexOfChar_4cfef 14 = .ok (.iload 5, 2) := by decide +kernel
theorem dJ1_indexOfChar_4cfef_16 : decode cJ1_indexOfChar_4cfef 16 = .ok (.baload, 1) := by decide +kernel
theorem dJ1_indexOfChar_4cfef_17 : decode cJ1_indexOfChar_4cfef 17 = .ok (.iload 4, 2) := by decide +kernel
theorem dJ1_indexOfChar_4cfef_19 : decode cJ1_indexOfChar_4cfef 19 = .ok (.if_icmp .ne 6, 3) := by decide +kernel
theorem dJ1_indexOfChar_4cfef_22 : decode cJ1_indexOfChar_4cfef 22 = .ok (.iload 5, 2) := by decide +kernel
theorem dJ1_indexOfChar_4cfef_24 : decode cJ1_indexOfChar_4cfef 24 = .ok (.ireturn, 1) := by decide +kernel
theorem dJ1_indexOfChar_4cfef_25 : decode cJ1_indexOfChar_4cfef 25 = .ok (.iinc 5 1, 3) := by decide +kernel
theorem dJ1_indexOfChar_4cfef_28 : decode cJ1_indexOfChar_4cfef 28 = .ok (.goto (-21), 3) := by decide +kernel
theorem dJ1_indexOfChar_4cfef_31 : decode cJ1_indexOfChar_4cfef 31 = .ok (.iconst (-1), 1) := by decide +kernel
theorem dJ1_indexOfChar_4cfef_32 : decode cJ1_indexOfChar_4cfef 32 = .ok (.ireturn, 1) := by decide +kernel
theorem dJ2_getChar_3b067_0 : decode cJ2_getChar_3b067 0 = .ok (.getstatic 44, 3) := by decide +kernel
theorem dJ2_getChar_3b067_3 : decode cJ2_getChar_3b067 3 = .ok (.ifCond .ne 25, 3) := by decide +kernel
theorem dJ2_getChar_3b067_6 : decode cJ2_getChar_3b067 6 = .ok (.iload_n 1, 1) := by decide +kernel
theorem dJ2_getChar_3b067_7 : decode cJ2_getChar_3b067 7 = .ok (.ifCond .lt 11, 3) := by decide +kernel
theorem dJ2_getChar_3b067_10 : decode cJ2_getChar_3b067 10 = .ok (.iload_n 1, 1) := by decide +kernel
theorem dJ2_getChar_3b067_11 : decode cJ2_getChar_3b067 11 = .ok (.aload_n 0, 1) := by decide +kernel
theorem dJ2_getChar_3b067_12 : decode cJ2_getChar_3b067 12 = .ok (.invokestatic 48, 3) := by decide +kernel
theorem dJ2_getChar_3b067_15 : decode cJ2_getChar_3b067 15 = .ok (.if_icmp .lt 13, 3) := by decide +kernel
theorem dJ2_getChar_3b067_18 : decode cJ2_getChar_3b067 18 = .ok (.new 52, 3) := by decide +kernel
theorem dJ2_getChar_3b067_21 : decode cJ2_getChar_3b067 21 = .ok (.dup, 1) := by decide +kernel
theorem dJ2_getChar_3b067_22 : decode cJ2_getChar_3b067 22 = .ok (.ldc 54, 2) := by decide +kernel
theorem dJ2_getChar_3b067_24 : decode cJ2_getChar_3b067 24 = .ok (.invokespecial 56, 3) := by decide +kernel
theorem dJ2_getChar_3b067_27 : decode cJ2_getChar_3b067 27 = .ok (.athrow, 1) := by decide +kernel
theorem dJ2_getChar_3b067_28 : decode cJ2_getChar_3b067 28 = .ok (.iload_n 1, 1) := by decide +kernel
theorem dJ2_getChar_3b067_29 : decode cJ2_getChar_3b067 29 = .ok (.iconst 1, 1) := by decide +kernel
theorem dJ2_getChar_3b067_30 : decode cJ2_getChar_3b067 30 = .ok (.ishl, 1) := by decide +kernel
theorem dJ2_getChar_3b067_31 : decode cJ2_getChar_3b067 31 = .ok (.istore_n 1, 1) := by decide +kernel
theorem dJ2_getChar_3b067_32 : decode cJ2_getChar_3b067 32 = .ok (.aload_n 0, 1) := by decide +kernel
theorem dJ2_getChar_3b067_33 : decode cJ2_getChar_3b067 33 = .ok (.iload_n 1, 1) := by decide +kernel
theorem dJ2_getChar_3b067_34 : decode cJ2_getChar_3b067 34 = .ok (.iinc 1 1, 3) := by decide +kernel
theorem dJ2_getChar_3b067_37 : decode cJ2_getChar_3b067 37 = .ok (.baload, 1) := by decide +kernel
theorem dJ2_getChar_3b067_38 : decode cJ2_getChar_3b067 38 = .ok (.sipush 255, 3) := by decide +kernel
theorem dJ2_getChar_3b067_41 : decode cJ2_getChar_3b067 41 = .ok (.iand, 1) := by decide +kernel
theorem dJ2_getChar_3b067_42 : decode cJ2_getChar_3b067 42 = .ok (.getstatic 59, 3) := by decide +kernel
theorem dJ2_getChar_3b067_45 : decode cJ2_getChar_3b067 45 = .ok (.ishl, 1) := by decide +kernel
theorem dJ2_getChar_3b067_46 : decode cJ2_getChar_3b067 46 = .ok (.aload_n 0, 1) := by decide +kernel
theorem dJ2_getChar_3b067_47 : decode cJ2_getChar_3b067 47 = .ok (.iload_n 1, 1) := by decide +kernel
theorem dJ2_getChar_3b067_48 : decode cJ2_getChar_3b067 48 = .ok (.baload, 1) := by decide +kernel
theorem dJ2_getChar_3b067_49 : decode cJ2_getChar_3b067 49 = .ok (.sipush 255, 3) := by decide +kernel
theorem dJ2_getChar_3b067_52 : decode cJ2_getChar_3b067 52 = .ok (.iand, 1) := by decide +kernel
theorem dJ2_getChar_3b067_53 : decode cJ2_getChar_3b067 53 = .ok (.getstatic 63, 3) := by decide +kernel
theorem dJ2_getChar_3b067_56 : decode cJ2_getChar_3b067 56 = .ok (.ishl, 1) := by decide +kernel
theorem dJ2_getChar_3b067_57 : decode cJ2_getChar_3b067 57 = .ok (.ior, 1) := by decide +kernel
theorem dJ2_getChar_3b067_58 : decode cJ2_getChar_3b067 58 = .ok (.i2c, 1) := by decide +kernel
theorem dJ2_getChar_3b067_59 : decode cJ2_getChar_3b067 59 = .ok (.ireturn, 1) := by decide +kernel
theorem dJ2_length_9d52b_0 : decode cJ2_length_9d52b 0 = .ok (.aload_n 0, 1) := by decide +kernel
theorem dJ2_length_9d52b_1 : decode cJ2_length_9d52b 1 = .ok (.arraylength, 1) := by decide +kernel
theorem dJ2_length_9d52b_2 : decode cJ2_length_9d52b 2 = .ok (.iconst 1, 1) := by decide +kernel
theorem dJ2_length_9d52b_3 : decode cJ2_length_9d52b 3 = .ok (.ishr, 1) := by decide +kernel
theorem dJ2_length_9d52b_4 : decode cJ2_length_9d52b 4 = .ok (.ireturn, 1) := by decide +kernel
theorem dJ2_indexOf_4cfef_0 : decode cJ2_indexOf_4cfef 0 = .ok (.iload_n 2, 1) := by decide +kernel
theorem dJ2_indexOf_4cfef_1 : decode cJ2_indexOf_4cfef 1 = .ok (.iconst 0, 1) := by decide +kernel
theorem dJ2_indexOf_4cfef_2 : decode cJ2_indexOf_4cfef 2 = .ok (.invokestatic 224, 3) := by decide +kernel
theorem dJ2_indexOf_4cfef_5 : decode cJ2_indexOf_4cfef 5 = .ok (.istore_n 2, 1) := by decide +kernel
theorem dJ2_indexOf_4cfef_6 : decode cJ2_indexOf_4cfef 6 = .ok (.iload_n 3, 1) := by decide +kernel
theorem dJ2_indexOf_4cfef_7 : decode cJ2_indexOf_4cfef 7 = .ok (.aload_n 0, 1) := by decide +kernel
theorem dJ2_indexOf_4cfef_8 : decode cJ2_indexOf_4cfef 8 = .ok (.arraylength, 1) := by decide +kernel
theorem dJ2_indexOf_4cfef_9 : decode cJ2_indexOf_4cfef 9 = .ok (.iconst 1, 1) := by decide +kernel
theorem dJ2_indexOf_4cfef_10 : decode cJ2_indexOf_4cfef 10 = .ok (.ishr, 1) := by decide +kernel
theorem dJ2_indexOf_4cfef_11 : decode cJ2_indexOf_4cfef 11 = .ok (.invokestatic 183, 3) := by decide +kernel
theorem dJ2_indexOf_4cfef_14 : decode cJ2_indexOf_4cfef 14 = .ok (.istore_n 3, 1) := by decide +kernel
theorem dJ2_indexOf_4cfef_15 : decode cJ2_indexOf_4cfef 15 = .ok (.iload_n 2, 1) := by decide +kernel
theorem dJ2_indexOf_4cfef_16 : decode cJ2_indexOf_4cfef 16 = .ok (.iload_n 3, 1) := by decide +kernel
theorem dJ2_indexOf_4cfef_17 : decode cJ2_indexOf_4cfef 17 = .ok (.if_icmp .lt 5, 3) := by decide +kernel
theorem dJ2_indexOf_4cfef_20 : decode cJ2_indexOf_4cfef 20 = .ok (.iconst (-1), 1) := by decide +kernel
theorem dJ2_indexOf_4cfef_21 : decode cJ2_indexOf_4cfef 21 = .ok (.ireturn, 1) := by decide +kernel
theorem dJ2_indexOf_4cfef_22 : decode cJ2_indexOf_4cfef 22 = .ok (.iload_n 1, 1) := by decide +kernel
theorem dJ2_indexOf_4cfef_23 : decode cJ2_indexOf_4cfef 23 = .ok (.ldc 227, 2) := by decide +kernel
theorem dJ2_indexOf_4cfef_25 : decode cJ2_indexOf_4cfef 25 = .ok (.if_icmp .ge 11, 3) := by decide +kernel
theorem dJ2_indexOf_4cfef_28 : decode cJ2_indexOf_4cfef 28 = .ok (.aload_n 0, 1) := by decide +kernel
theorem dJ2_indexOf_4cfef_29 : decode cJ2_indexOf_4cfef 29 = .ok (.iload_n 1, 1) := by decide +kernel
theorem dJ2_indexOf_4cfef_30 : decode cJ2_indexOf_4cfef 30 = .ok (.iload_n 2, 1) := by decide +kernel
theorem dJ2_indexOf_4cfef_31 : decode cJ2_indexOf_4cfef 31 = .ok (.iload_n 3, 1) := by decide +kernel
theorem dJ2_indexOf_4cfef_32 : decode cJ2_indexOf_4cfef 32 = .ok (.invokestatic 228, 3) := by decide +kernel
theorem dJ2_indexOf_4cfef_35 : decode cJ2_indexOf_4cfef 35 = .ok (.ireturn, 1) := by decide +kernel
theorem dJ2_indexOf_4cfef_36 : decode cJ2_indexOf_4cfef 36 = .ok (.aload_n 0, 1) := by decide +kernel
theorem dJ2_indexOf_4cfef_37 : decode cJ2_indexOf_4cfef 37 = .ok (.iload_n 1, 1) := by decide +kernel
theorem dJ2_indexOf_4cfef_38 : decode cJ2_indexOf_4cfef 38 = .ok (.iload_n 2, 1) := by decide +kernel
theorem dJ2_indexOf_4cfef_39 : decode cJ2_indexOf_4cfef 39 = .ok (.iload_n 3, 1) := by decide +kernel
theorem dJ2_indexOf_4cfef_40 : decode cJ2_indexOf_4cfef 40 = .ok (.invokestatic 232, 3) := by decide +kernel
theorem dJ2_indexOf_4cfef_43 : decode cJ2_indexOf_4cfef 43 = .ok (.ireturn, 1) := by decide +kernel
theorem dJ2_indexOfChar_4cfef_0 : decode cJ2_indexOfChar_4cfef 0 = .ok (.iload_n 2, 1) := by decide +kernel
theorem dJ2_indexOfChar_4cfef_1 : decode cJ2_indexOfChar_4cfef 1 = .ok (.iload_n 3, 1) := by decide +kernel
theorem dJ2_indexOfChar_4cfef_2 : decode cJ2_indexOfChar_4cfef 2 = .ok (.aload_n 0, 1) := by decide +kernel
theorem dJ2_indexOfChar_4cfef_3 : decode cJ2_indexOfChar_4cfef 3 = .ok (.invokestatic 96, 3) := by decide +kernel
theorem dJ2_indexOfChar_4cfef_6 : decode cJ2_indexOfChar_4cfef 6 = .ok (.aload_n 0, 1) := by decide +kernel
theorem dJ2_indexOfChar_4cfef_7 : decode cJ2_indexOfChar_4cfef 7 = .ok (.iload_n 1, 1) := by decide +kernel
theorem dJ2_indexOfChar_4cfef_8 : decode cJ2_indexOfChar_4cfef 8 = .ok (.iload_n 2, 1) := by decide +kernel
theorem dJ2_indexOfChar_4cfef_9 : decode cJ2_indexOfChar_4cfef 9 = .ok (.iload_n 3, 1) := by decide +kernel
theorem dJ2_indexOfChar_4cfef_10 : decode cJ2_indexOfChar_4cfef 10 = .ok (.invokestatic 244, 3) := by decide +kernel
theorem dJ2_indexOfChar_4cfef_13 : decode cJ2_indexOfChar_4cfef 13 = .ok (.ireturn, 1) := by decide +kernel
theorem dJ2_indexOfCharUnsafe_4cfef_0 : decode cJ2_indexOfCharUnsafe_4cfef 0 = .ok (.iload_n 2, 1) := by decide +kernel
theorem dJ2_indexOfCharUnsafe_4cfef_1 : decode cJ2_indexOfCharUnsafe_4cfef 1 = .ok (.istore 4, 2) := by decide +kernel
theorem dJ2_indexOfCharUnsafe_4cfef_3 : decode cJ2_indexOfCharUnsafe_4cfef 3 = .ok (.iload 4, 2) := by decide +kernel
theorem dJ2_indexOfCharUnsafe_4cfef_5 : decode cJ2_indexOfCharUnsafe_4cfef 5 = .ok (.iload_n 3, 1) := by decide +kernel
theorem dJ2_indexOfCharUnsafe_4cfef_6 : decode cJ2_indexOfCharUnsafe_4cfef 6 = .ok (.if_icmp .ge 22, 3) := by decide +kernel
theorem dJ2_indexOfCharUnsafe_4cfef_9 : decode cJ2_indexOfCharUnsafe_4cfef 9 = .ok (.aload_n 0, 1) := by decide +kernel
theorem dJ2_indexOfCharUnsafe_4cfef_10 : decode cJ2_indexOfCharUnsafe_4cfef 10 = .ok (.iload 4, 2) := by decide +kernel
theorem dJ2_indexOfCharUnsafe_4cfef_12 : decode cJ2_indexOfCharUnsafe_4cfef 12 = .ok (.invokestatic 71, 3) := by decide +kernel
theorem dJ2_indexOfCharUnsafe_4cfef_15 : decode cJ2_indexOfCharUnsafe_4cfef 15 = .ok (.iload_n 1, 1) := by decide +kernel
theorem dJ2_indexOfCharUnsafe_4cfef_16 : decode cJ2_indexOfCharUnsafe_4cfef 16 = .ok (.if_icmp .ne 6, 3) := by decide +kernel
theorem dJ2_indexOfCharUnsafe_4cfef_19 : decode cJ2_indexOfCharUnsafe_4cfef 19 = .ok (.iload 4, 2) := by decide +kernel
theorem dJ2_indexOfCharUnsafe_4cfef_21 : decode cJ2_indexOfCharUnsafe_4cfef 21 = .ok (.ireturn, 1) := by decide +kernel
theorem dJ2_indexOfCharUnsafe_4cfef_22 : decode cJ2_indexOfCharUnsafe_4cfef 22 = .ok (.iinc 4 1, 3) := by decide +kernel
theorem dJ2_indexOfCharUnsafe_4cfef_25 : decode cJ2_indexOfCharUnsafe_4cfef 25 = .ok (.goto (-22), 3) := by decide +kernel
theorem dJ2_indexOfCharUnsafe_4cfef_28 : decode cJ2_indexOfCharUnsafe_4cfef 28 = .ok (.iconst (-1), 1) := by decide +kernel
theorem dJ2_indexOfCharUnsafe_4cfef_29 : decode cJ2_indexOfCharUnsafe_4cfef 29 = .ok (.ireturn, 1) := by decide +kernel
theorem dJ2_indexOfSupplementary_4cfef_0 : decode cJ2_indexOfSupplementary_4cfef 0 = .ok (.iload_n 1, 1) := by decide +kernel
theorem dJ2_indexOfSupplementary_4cfef_1 : decode cJ2_indexOfSupplementary_4cfef 1 = .ok (.invokestatic 164, 3) := by decide +kernel
theorem dJ2_indexOfSupplementary_4cfef_4 : decode cJ2_indexOfSupplementary_4cfef 4 = .ok (.ifCond .eq 65, 3) := by decide +kernel
theorem dJ2_indexOfSupplementary_4cfef_7 : decode cJ2_indexOfSupplementary_4cfef 7 = .ok (.iload_n 1, 1) := by decide +kernel
theorem dJ2_indexOfSupplementary_4cfef_8 : decode cJ2_indexOfSupplementary_4cfef 8 = .ok (.invokestatic 157, 3) := by decide +kernel
theorem dJ2_indexOfSupplementary_4cfef_11 : decode cJ2_indexOfSupplementary_4cfef 11 = .ok (.istore 4, 2) := by decide +kernel
theorem dJ2_indexOfSupplementary_4cfef_13 : decode cJ2_indexOfSupplementary_4cfef 13 = .ok (.iload_n 1, 1) := by decide +kernel
theorem dJ2_indexOfSupplementary_4cfef_14 : decode cJ2_indexOfSupplementary_4cfef 14 = .ok (.invokestatic 161, 3) := by decide +kernel
theorem dJ2_indexOfSupplementary_4cfef_17 : decode cJ2_indexOfSupplementary_4cfef 17 = .ok (.istore 5, 2) := by decide +kernel
theorem dJ2_indexOfSupplementary_4cfef_19 : decode cJ2_indexOfSupplementary_4cfef 19 = .ok (.iload_n 2, 1) := by decide +kernel
theorem dJ2_indexOfSupplementary_4cfef_20 : decode cJ2_indexOfSupplementary_4cfef 20 = .ok (.iload_n 3, 1) := by decide +kernel
theorem dJ2_indexOfSupplementary_4cfef_21 : decode cJ2_indexOfSupplementary_4cfef 21 = .ok (.aload_n 0, 1) := by decide +kernel
theorem dJ2_indexOfSupplementary_4cfef_22 : decode cJ2_indexOfSupplementary_4cfef 22 = .ok (.invokestatic 96, 3) := by decide +kernel
theorem dJ2_indexOfSupplementary_4cfef_25 : decode cJ2_indexOfSupplementary_4cfef 25 = .ok (.iload_n 2, 1) := by decide +kernel
theorem dJ2_indexOfSupplementary_4cfef_26 : decode cJ2_indexOfSupplementary_4cfef 26 = .ok (.istore 6, 2) := by decide +kernel
theorem dJ2_indexOfSupplementary_4cfef_28 : decode cJ2_indexOfSupplementary_4cfef 28 = .ok (.iload 6, 2) := by decide +kernel
theorem dJ2_indexOfSupplementary_4cfef_30 : decode cJ2_indexOfSupplementary_4cfef 30 = .ok (.iload_n 3, 1) := by decide +kernel
theorem dJ2_indexOfSupplementary_4cfef_31 : decode cJ2_indexOfSupplementary_4cfef 31 = .ok (.iconst 1, 1) := by decide +kernel
theorem dJ2_indexOfSupplementary_4cfef_32 : decode cJ2_indexOfSupplementary_4cfef 32 = .ok (.isub, 1) := by decide +kernel
theorem dJ2_indexOfSupplementary_4cfef_33 : decode cJ2_indexOfSupplementary_4cfef 33 = .ok (.if_icmp .ge 36, 3) := by decide +kernel
theorem dJ2_indexOfSupplementary_4cfef_36 : decode cJ2_indexOfSupplementary_4cfef 36 = .ok (.aload_n 0, 1) := by decide +kernel
theorem dJ2_indexOfSupplementary_4cfef_37 : decode cJ2_indexOfSupplementary_4cfef 37 = .ok (.iload 6, 2) := by decide +kernel
theorem dJ2_indexOfSupplementary_4cfef_39 : decode cJ2_indexOfSupplementary_4cfef 39 = .ok (.invokestatic 71, 3) := by decide +kernel
theorem dJ2_indexOfSupplementary_4cfef_42 : decode cJ2_indexOfSupplementary_4cfef 42 = .ok (.iload 4, 2) := by decide +kernel
theorem dJ2_indexOfSupplementary_4cfef_44 : decode cJ2_indexOfSupplementary_4cfef 44 = .ok (.if_icmp .ne 19, 3) := by decide +kernel
theorem dJ2_indexOfSupplementary_4cfef_47 : decode cJ2_indexOfSupplementary_4cfef 47 = .ok (.aload_n 0, 1) := by decide +kernel
theorem dJ2_indexOfSupplementary_4cfef_48 : decode cJ2_indexOfSupplementary_4cfef 48 = .ok (.iload 6, 2) := by decide +kernel
theorem dJ2_indexOfSupplementary_4cfef_50 : decode cJ2_indexOfSupplementary_4cfef 50 = .ok (.iconst 1, 1) := by decide +kernel
theorem dJ2_indexOfSupplementary_4cfef_51 : decode cJ2_indexOfSupplementary_4cfef 51 = .ok (.iadd, 1) := by decide +kernel
theorem dJ2_indexOfSupplementary_4cfef_52 : decode cJ2_indexOfSupplementary_4cfef 52 = .ok (.invokestatic 71, 3) := by decide +kernel
theorem dJ2_indexOfSupplementary_4cfef_55 : decode cJ2_indexOfSupplementary_4cfef 55 = .ok (.iload 5, 2) := by decide +kernel
theorem dJ2_indexOfSupplementary_4cfef_57 : decode cJ2_indexOfSupplementary_4cfef 57 = .ok (.if_icmp .ne 6, 3) := by decide +kernel
theorem dJ2_indexOfSupplementary_4cfef_60 : decode cJ2_indexOfSupplementary_4cfef 60 = .ok (.iload 6, 2) := by decide +kernel
theorem dJ2_indexOfSupplementary_4cfef_62 : decode cJ2_indexOfSupplementary_4cfef 62 = .ok (.ireturn, 1) := by decide +kernel
theorem dJ2_indexOfSupplementary_4cfef_63 : decode cJ2_indexOfSupplementary_4cfef 63 = .ok (.iinc 6 1, 3) := by decide +kernel
theorem dJ2_indexOfSupplementary_4cfef_66 : decode cJ2_indexOfSupplementary_4cfef 66 = .ok (.goto (-38), 3) := by decide +kernel
theorem dJ2_indexOfSupplementary_4cfef_69 : decode cJ2_indexOfSupplementary_4cfef 69 = .ok (.iconst (-1), 1) := by decide +kernel
theorem dJ2_indexOfSupplementary_4cfef_70 : decode cJ2_indexOfSupplementary_4cfef 70 = .ok (.ireturn, 1) := by decide +kernel
theorem dJ2_charAt_3b067_0 : decode cJ2_charAt_3b067 0 = .ok (.iload_n 1, 1) := by decide +kernel
theorem dJ2_charAt_3b067_1 : decode cJ2_charAt_3b067 1 = .ok (.aload_n 0, 1) := by decide +kernel
theorem dJ2_charAt_3b067_2 : decode cJ2_charAt_3b067 2 = .ok (.invokestatic 67, 3) := by decide +kernel
theorem dJ2_charAt_3b067_5 : decode cJ2_charAt_3b067 5 = .ok (.aload_n 0, 1) := by decide +kernel
theorem dJ2_charAt_3b067_6 : decode cJ2_charAt_3b067 6 = .ok (.iload_n 1, 1) := by decide +kernel
theorem dJ2_charAt_3b067_7 : decode cJ2_charAt_3b067 7 = .ok (.invokestatic 71, 3) := by decide +kernel
theorem dJ2_charAt_3b067_10 : decode cJ2_charAt_3b067 10 = .ok (.ireturn, 1) := by decide +kernel
theorem dJ2_checkIndex_2214a_0 : decode cJ2_checkIndex_2214a 0 = .ok (.iload_n 0, 1) := by decide +kernel
theorem dJ2_checkIndex_2214a_1 : decode cJ2_checkIndex_2214a 1 = .ok (.aload_n 1, 1) := by decide +kernel
theorem dJ2_checkIndex_2214a_2 : decode cJ2_checkIndex_2214a 2 = .ok (.invokestatic 48, 3) := by decide +kernel
theorem dJ2_checkIndex_2214a_5 : decode cJ2_checkIndex_2214a 5 = .ok (.invokestatic 414, 3) := by decide +kernel
theorem dJ2_checkIndex_2214a_8 : decode cJ2_checkIndex_2214a 8 = .ok (.return_, 1) := by decide +kernel
theorem dJ2_checkBoundsBeginEnd_d044e_0 : decode cJ2_checkBoundsBeginEnd_d044e 0 = .ok (.iload_n 0, 1) := by decide +kernel
theorem dJ2_checkBoundsBeginEnd_d044e_1 : decode cJ2_checkBoundsBeginEnd_d044e 1 = .ok (.iload_n 1, 1) := by decide +kernel
theorem dJ2_checkBoundsBeginEnd_d044e_2 : decode cJ2_checkBoundsBeginEnd_d044e 2 = .ok (.aload_n 2, 1) := by decide +kernel
theorem dJ2_checkBoundsBeginEnd_d044e_3 : decode cJ2_checkBoundsBeginEnd_d044e 3 = .ok (.invokestatic 48, 3) := by decide +kernel
theorem dJ2_checkBoundsBeginEnd_d044e_6 : decode cJ2_checkBoundsBeginEnd_d044e 6 = .ok (.invokestatic 241, 3) := by decide +kernel
theorem dJ2_checkBoundsBeginEnd_d044e_9 : decode cJ2_checkBoundsBeginEnd_d044e 9 = .ok (.return_, 1) := by decide +kernel
theorem dJ7_fill_d0a16_0 : decode cJ7_fill_d0a16 0 = .ok (.iconst 0, 1) := by decide +kernel
theorem dJ7_fill_d0a16_1 : decode cJ7_fill_d0a16 1 = .ok (.istore_n 3, 1) := by decide +kernel
theorem dJ7_fill_d0a16_2 : decode cJ7_fill_d0a16 2 = .ok (.aload_n 0, 1) := by decide +kernel
theorem dJ7_fill_d0a16_3 : decode cJ7_fill_d0a16 3 = .ok (.arraylength, 1) := by decide +kernel
theorem dJ7_fill_d0a16_4 : decode cJ7_fill_d0a16 4 = .ok (.istore 4, 2) := by decide +kernel
theorem dJ7_fill_d0a16_6 : decode cJ7_fill_d0a16 6 = .ok (.iload_n 3, 1) := by decide +kernel
theorem dJ7_fill_d0a16_7 : decode cJ7_fill_d0a16 7 = .ok (.iload 4, 2) := by decide +kernel
theorem dJ7_fill_d0a16_9 : decode cJ7_fill_d0a16 9 = .ok (.if_icmp .ge 13, 3) := by decide +kernel
theorem dJ7_fill_d0a16_12 : decode cJ7_fill_d0a16 12 = .ok (.aload_n 0, 1) := by decide +kernel
theorem dJ7_fill_d0a16_13 : decode cJ7_fill_d0a16 13 = .ok (.iload_n 3, 1) := by decide +kernel
theorem dJ7_fill_d0a16_14 : decode cJ7_fill_d0a16 14 = .ok (.lload_n 1, 1) := by decide +kernel
theorem dJ7_fill_d0a16_15 : decode cJ7_fill_d0a16 15 = .ok (.lastore, 1) := by decide +kernel
theorem dJ7_fill_d0a16_16 : decode cJ7_fill_d0a16 16 = .ok (.iinc 3 1, 3) := by decide +kernel
theorem dJ7_fill_d0a16_19 : decode cJ7_fill_d0a16 19 = .ok (.goto (-13), 3) := by decide +kernel
theorem dJ7_fill_d0a16_22 : decode cJ7_fill_d0a16 22 = .ok (.return_, 1) := by decide +kernel
theorem dJ7_fill_53178_0 : decode cJ7_fill_53178 0 = .ok (.iconst 0, 1) := by decide +kernel
theorem dJ7_fill_53178_1 : decode cJ7_fill_53178 1 = .ok (.istore_n 2, 1) := by decide +kernel
theorem dJ7_fill_53178_2 : decode cJ7_fill_53178 2 = .ok (.aload_n 0, 1) := by decide +kernel
theorem dJ7_fill_53178_3 : decode cJ7_fill_53178 3 = .ok (.arraylength, 1) := by decide +kernel
theorem dJ7_fill_53178_4 : decode cJ7_fill_53178 4 = .ok (.istore_n 3, 1) := by decide +kernel
theorem dJ7_fill_53178_5 : decode cJ7_fill_53178 5 = .ok (.iload_n 2, 1) := by decide +kernel
theorem dJ7_fill_53178_6 : decode cJ7_fill_53178 6 = .ok (.iload_n 3, 1) := by decide +kernel
theorem dJ7_fill_53178_7 : decode cJ7_fill_53178 7 = .ok (.if_icmp .ge 13, 3) := by decide +kernel
theorem dJ7_fill_53178_10 : decode cJ7_fill_53178 10 = .ok (.aload_n 0, 1) := by decide +kernel
theorem dJ7_fill_53178_11 : decode cJ7_fill_53178 11 = .ok (.iload_n 2, 1) := by decide +kernel
theorem dJ7_fill_53178_12 : decode cJ7_fill_53178 12 = .ok (.iload_n 1, 1) := by decide +kernel
theorem dJ7_fill_53178_13 : decode cJ7_fill_53178 13 = .ok (.iastore, 1) := by decide +kernel
theorem dJ7_fill_53178_14 : decode cJ7_fill_53178 14 = .ok (.iinc 2 1, 3) := by decide +kernel
theorem dJ7_fill_53178_17 : decode cJ7_fill_53178 17 = .ok (.goto (-12), 3) := by decide +kernel
theorem dJ7_fill_53178_20 : decode cJ7_fill_53178 20 = .ok (.return_, 1) := by decide +kernel
theorem dJ3_checkIndex_8e157_0 : decode cJ3_checkIndex_8e157 0 = .ok (.iload_n 0, 1) := by decide +kernel
theorem dJ3_checkIndex_8e157_1 : decode cJ3_checkIndex_8e157 1 = .ok (.ifCond .lt 8, 3) := by decide +kernel
theorem dJ3_checkIndex_8e157_4 : decode cJ3_checkIndex_8e157 4 = .ok (.iload_n 0, 1) := by decide +kernel
theorem dJ3_checkIndex_8e157_5 : decode cJ3_checkIndex_8e157 5 = .ok (.iload_n 1, 1) := by decide +kernel
theorem dJ3_checkIndex_8e157_6 : decode cJ3_checkIndex_8e157 6 = .ok (.if_icmp .lt 10, 3) := by decide +kernel
theorem dJ3_checkIndex_8e157_9 : decode cJ3_checkIndex_8e157 9 = .ok (.aload_n 2, 1) := by decide +kernel
theorem dJ3_checkIndex_8e157_10 : decode cJ3_checkIndex_8e157 10 = .ok (.iload_n 0, 1) := by decide +kernel
theorem dJ3_checkIndex_8e157_11 : decode cJ3_checkIndex_8e157 11 = .ok (.iload_n 1, 1) := by decide +kernel
theorem dJ3_checkIndex_8e157_12 : decode cJ3_checkIndex_8e157 12 = .ok (.invokestatic 95, 3) := by decide +kernel
theorem dJ3_checkIndex_8e157_15 : decode cJ3_checkIndex_8e157 15 = .ok (.athrow, 1) := by decide +kernel
theorem dJ3_checkIndex_8e157_16 : decode cJ3_checkIndex_8e157 16 = .ok (.iload_n 0, 1) := by decide +kernel
theorem dJ3_checkIndex_8e157_17 : decode cJ3_checkIndex_8e157 17 = .ok (.ireturn, 1) := by decide +kernel
theorem dJ3_checkFromToIndex_8c36e_0 : decode cJ3_checkFromToIndex_8c36e 0 = .ok (.iload_n 0, 1) := by decide +kernel
theorem dJ3_checkFromToIndex_8c36e_1 : decode cJ3_checkFromToIndex_8c36e 1 = .ok (.ifCond .lt 13, 3) := by decide +kernel
theorem dJ3_checkFromToIndex_8c36e_4 : decode cJ3_checkFromToIndex_8c36e 4 = .ok (.iload_n 0, 1) := by decide +kernel
theorem dJ3_checkFromToIndex_8c36e_5 : decode cJ3_checkFromToIndex_8c36e 5 = .ok (.iload_n 1, 1) := by decide +kernel
theorem dJ3_checkFromToIndex_8c36e_6 : decode cJ3_checkFromToIndex_8c36e 6 = .ok (.if_icmp .gt 8, 3) := by decide +kernel
theorem dJ3_checkFromToIndex_8c36e_9 : decode cJ3_checkFromToIndex_8c36e 9 = .ok (.iload_n 1, 1) := by decide +kernel
theorem dJ3_checkFromToIndex_8c36e_10 : decode cJ3_checkFromToIndex_8c36e 10 = .ok (.iload_n 2, 1) := by decide +kernel
theorem dJ3_checkFromToIndex_8c36e_11 : decode cJ3_checkFromToIndex_8c36e 11 = .ok (.if_icmp .le 11, 3) := by decide +kernel
theorem dJ3_checkFromToIndex_8c36e_14 : decode cJ3_checkFromToIndex_8c36e 14 = .ok (.aload_n 3, 1) := by decide +kernel
theorem dJ3_checkFromToIndex_8c36e_15 : decode cJ3_checkFromToIndex_8c36e 15 = .ok (.iload_n 0, 1) := by decide +kernel
theorem dJ3_checkFromToIndex_8c36e_16 : decode cJ3_checkFromToIndex_8c36e 16 = .ok (.iload_n 1, 1) := by decide +kernel
theorem dJ3_checkFromToIndex_8c36e_17 : decode cJ3_checkFromToIndex_8c36e 17 = .ok (.iload_n 2, 1) := by decide +kernel
theorem dJ3_checkFromToIndex_8c36e_18 : decode cJ3_checkFromToIndex_8c36e 18 = .ok (.invokestatic 99, 3) := by decide +kernel
theorem dJ3_checkFromToIndex_8c36e_21 : decode cJ3_checkFromToIndex_8c36e 21 = .ok (.athrow, 1) := by decide +kernel
theorem dJ3_checkFromToIndex_8c36e_22 : decode cJ3_checkFromToIndex_8c36e 22 = .ok (.iload_n 0, 1) := by decide +kernel
theorem dJ3_checkFromToIndex_8c36e_23 : decode cJ3_checkFromToIndex_8c36e 23 = .ok (.ireturn, 1) := by decide +kernel
