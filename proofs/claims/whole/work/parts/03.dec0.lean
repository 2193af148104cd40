theorem dJ7_rangeCheck_23922_0 : decode cJ7_rangeCheck_23922 0 = .ok (.iload_n 1, 1) := by decide +kernel
theorem dJ7_rangeCheck_23922_1 : decode cJ7_rangeCheck_23922 1 = .ok (.iload_n 2, 1) := by decide +kernel
theorem dJ7_rangeCheck_23922_2 : decode cJ7_rangeCheck_23922 2 = .ok (.if_icmp .le 44, 3) := by decide +kernel
theorem dJ7_rangeCheck_23922_5 : decode cJ7_rangeCheck_23922 5 = .ok (.new 43, 3) := by decide +kernel
theorem dJ7_rangeCheck_23922_8 : decode cJ7_rangeCheck_23922 8 = .ok (.dup, 1) := by decide +kernel
theorem dJ7_rangeCheck_23922_9 : decode cJ7_rangeCheck_23922 9 = .ok (.new 45, 3) := by decide +kernel
theorem dJ7_rangeCheck_23922_12 : decode cJ7_rangeCheck_23922 12 = .ok (.dup, 1) := by decide +kernel
theorem dJ7_rangeCheck_23922_13 : decode cJ7_rangeCheck_23922 13 = .ok (.invokespecial 47, 3) := by decide +kernel
theorem dJ7_rangeCheck_23922_16 : decode cJ7_rangeCheck_23922 16 = .ok (.ldc 48, 2) := by decide +kernel
theorem dJ7_rangeCheck_23922_18 : decode cJ7_rangeCheck_23922 18 = .ok (.invokevirtual 50, 3) := by decide +kernel
theorem dJ7_rangeCheck_23922_21 : decode cJ7_rangeCheck_23922 21 = .ok (.iload_n 1, 1) := by decide +kernel
theorem dJ7_rangeCheck_23922_22 : decode cJ7_rangeCheck_23922 22 = .ok (.invokevirtual 54, 3) := by decide +kernel
theorem dJ7_rangeCheck_23922_25 : decode cJ7_rangeCheck_23922 25 = .ok (.ldc 57, 2) := by decide +kernel
theorem dJ7_rangeCheck_23922_27 : decode cJ7_rangeCheck_23922 27 = .ok (.invokevirtual 50, 3) := by decide +kernel
theorem dJ7_rangeCheck_23922_30 : decode cJ7_rangeCheck_23922 30 = .ok (.iload_n 2, 1) := by decide +kernel
theorem dJ7_rangeCheck_23922_31 : decode cJ7_rangeCheck_23922 31 = .ok (.invokevirtual 54, 3) := by decide +kernel
theorem dJ7_rangeCheck_23922_34 : decode cJ7_rangeCheck_23922 34 = .ok (.ldc 59, 2) := by decide +kernel
theorem dJ7_rangeCheck_23922_36 : decode cJ7_rangeCheck_23922 36 = .ok (.invokevirtual 50, 3) := by decide +kernel
theorem dJ7_rangeCheck_23922_39 : decode cJ7_rangeCheck_23922 39 = .ok (.invokevirtual 61, 3) := by decide +kernel
theorem dJ7_rangeCheck_23922_42 : decode cJ7_rangeCheck_23922 42 = .ok (.invokespecial 65, 3) := by decide +kernel
theorem dJ7_rangeCheck_23922_45 : decode cJ7_rangeCheck_23922 45 = .ok (.athrow, 1) := by decide +kernel
theorem dJ7_rangeCheck_23922_46 : decode cJ7_rangeCheck_23922 46 = .ok (.iload_n 1, 1) := by decide +kernel
theorem dJ7_rangeCheck_23922_47 : decode cJ7_rangeCheck_23922 47 = .ok (.ifCond .ge 12, 3) := by decide +kernel
theorem dJ7_rangeCheck_23922_50 : decode cJ7_rangeCheck_23922 50 = .ok (.new 68, 3) := by decide +kernel
theorem dJ7_rangeCheck_23922_53 : decode cJ7_rangeCheck_23922 53 = .ok (.dup, 1) := by decide +kernel
theorem dJ7_rangeCheck_23922_54 : decode cJ7_rangeCheck_23922 54 = .ok (.iload_n 1, 1) := by decide +kernel
theorem dJ7_rangeCheck_23922_55 : decode cJ7_rangeCheck_23922 55 = .ok (.invokespecial 70, 3) := by decide +kernel
theorem dJ7_rangeCheck_23922_58 : decode cJ7_rangeCheck_23922 58 = .ok (.athrow, 1) := by decide +kernel
theorem dJ7_rangeCheck_23922_59 : decode cJ7_rangeCheck_23922 59 = .ok (.iload_n 2, 1) := by decide +kernel
theorem dJ7_rangeCheck_23922_60 : decode cJ7_rangeCheck_23922 60 = .ok (.iload_n 0, 1) := by decide +kernel
theorem dJ7_rangeCheck_23922_61 : decode cJ7_rangeCheck_23922 61 = .ok (.if_icmp .le 12, 3) := by decide +kernel
theorem dJ7_rangeCheck_23922_64 : decode cJ7_rangeCheck_23922 64 = .ok (.new 68, 3) := by decide +kernel
theorem dJ7_rangeCheck_23922_67 : decode cJ7_rangeCheck_23922 67 = .ok (.dup, 1) := by decide +kernel
theorem dJ7_rangeCheck_23922_68 : decode cJ7_rangeCheck_23922 68 = .ok (.iload_n 2, 1) := by decide +kernel
theorem dJ7_rangeCheck_23922_69 : decode cJ7_rangeCheck_23922 69 = .ok (.invokespecial 70, 3) := by decide +kernel
theorem dJ7_rangeCheck_23922_72 : decode cJ7_rangeCheck_23922 72 = .ok (.athrow, 1) := by decide +kernel
theorem dJ7_rangeCheck_23922_73 : decode cJ7_rangeCheck_23922 73 = .ok (.return_, 1) := by decide +kernel
theorem dJ7_fill_d0a16_0 : decode cJ7_fill_d0a16 0 = .ok (.iconst 0, 1) := by decide +kernel
theorem dJ7_fill_d0a16_1 : decode cJ7_fill_d0a16 1 = .ok (.istore_n 3, 1) := by decide +kernel
theorem dJ7_fill_d0a16_2 : decode cJ7_fill_d0a16 2 = .ok (.aload_n 0, 1) := by decide +kernel
theorem dJ7_fill_d0a16_3 : decode cJ7_fill_d0a16 3 = .ok (.arraylength, 1) := by decide +kernel
theorem dJ7_fill_d0a16_4 : decode cJ7_fill_d0a16 4 = .ok (.istore 4, 2) := by decide +kernel
theorem dJ7_fill_d0a16_6 : decode cJ7_fill_d0a16 6 = .ok (.iload_n 3, 1) := by decide +kernel
theorem dJ7_fill_d0a16_7 : decode cJ7_fill_d0a16 7 = .ok (.iload 4, 2) := by decide +kernel
theorem dJ7_fill_d0a16_9 : decode cJ7_fill_d0a16 9 = .ok (.if_icmp .ge 13, 3) := by decide +kernel
theorem dJ7_fill_d0a16_12 : decode cJ7_fill_d0a16 12 = .ok (.aload_n 0, 1) := by decide +kernel
theorem dJ7_fill_d0a16_13 : decode cJ7_fill_d0a16 13 = .ok (.iload_n 3, 1) := by decide +kernel
theorem dJ7_fill_d0a16_14 : decode cJ7_fill_d0a16 14 = .ok (.lload_n 1, 1) := by decide +kernel
theorem dJ7_fill_d0a16_15 : decode cJ7_fill_d0a16 15 = .ok (.lastore, 1) := by decide +kernel
theorem dJ7_fill_d0a16_16 : decode cJ7_fill_d0a16 16 = .ok (.iinc 3 1, 3) := by decide +kernel
theorem dJ7_fill_d0a16_19 : decode cJ7_fill_d0a16 19 = .ok (.goto (-13), 3) := by decide +kernel
theorem dJ7_fill_d0a16_22 : decode cJ7_fill_d0a16 22 = .ok (.return_, 1) := by decide +kernel
theorem dJ7_fill_53178_0 : decode cJ7_fill_53178 0 = .ok (.iconst 0, 1) := by decide +kernel
theorem dJ7_fill_53178_1 : decode cJ7_fill_53178 1 = .ok (.istore_n 2, 1) := by decide +kernel
theorem dJ7_fill_53178_2 : decode cJ7_fill_53178 2 = .ok (.aload_n 0, 1) := by decide +kernel
theorem dJ7_fill_53178_3 : decode cJ7_fill_53178 3 = .ok (.arraylength, 1) := by decide +kernel
theorem dJ7_fill_53178_4 : decode cJ7_fill_53178 4 = .ok (.istore_n 3, 1) := by decide +kernel
theorem dJ7_fill_53178_5 : decode cJ7_fill_53178 5 = .ok (.iload_n 2, 1) := by decide +kernel
theorem dJ7_fill_53178_6 : decode cJ7_fill_53178 6 = .ok (.iload_n 3, 1) := by decide +kernel
theorem dJ7_fill_53178_7 : decode cJ7_fill_53178 7 = .ok (.if_icmp .ge 13, 3) := by decide +kernel
theorem dJ7_fill_53178_10 : decode cJ7_fill_53178 10 = .ok (.aload_n 0, 1) := by decide +kernel
theorem dJ7_fill_53178_11 : decode cJ7_fill_53178 11 = .ok (.iload_n 2, 1) := by decide +kernel
theorem dJ7_fill_53178_12 : decode cJ7_fill_53178 12 = .ok (.iload_n 1, 1) := by decide +kernel
theorem dJ7_fill_53178_13 : decode cJ7_fill_53178 13 = .ok (.iastore, 1) := by decide +kernel
theorem dJ7_fill_53178_14 : decode cJ7_fill_53178 14 = .ok (.iinc 2 1, 3) := by decide +kernel
theorem dJ7_fill_53178_17 : decode cJ7_fill_53178 17 = .ok (.goto (-12), 3) := by decide +kernel
theorem dJ7_fill_53178_20 : decode cJ7_fill_53178 20 = .ok (.return_, 1) := by decide +kernel
theorem dJ7_fill_fda19_0 : decode cJ7_fill_fda19 0 = .ok (.aload_n 0, 1) := by decide +kernel
theorem dJ7_fill_fda19_1 : decode cJ7_fill_fda19 1 = .ok (.arraylength, 1) := by decide +kernel
theorem dJ7_fill_fda19_2 : decode cJ7_fill_fda19 2 = .ok (.iload_n 1, 1) := by decide +kernel
theorem dJ7_fill_fda19_3 : decode cJ7_fill_fda19 3 = .ok (.iload_n 2, 1) := by decide +kernel
theorem dJ7_fill_fda19_4 : decode cJ7_fill_fda19 4 = .ok (.invokestatic 13, 3) := by decide +kernel
theorem dJ7_fill_fda19_7 : decode cJ7_fill_fda19 7 = .ok (.iload_n 1, 1) := by decide +kernel
theorem dJ7_fill_fda19_8 : decode cJ7_fill_fda19 8 = .ok (.istore 4, 2) := by decide +kernel
theorem dJ7_fill_fda19_10 : decode cJ7_fill_fda19 10 = .ok (.iload 4, 2) := by decide +kernel
theorem dJ7_fill_fda19_12 : decode cJ7_fill_fda19 12 = .ok (.iload_n 2, 1) := by decide +kernel
theorem dJ7_fill_fda19_13 : decode cJ7_fill_fda19 13 = .ok (.if_icmp .ge 14, 3) := by decide +kernel
theorem dJ7_fill_fda19_16 : decode cJ7_fill_fda19 16 = .ok (.aload_n 0, 1) := by decide +kernel
theorem dJ7_fill_fda19_17 : decode cJ7_fill_fda19 17 = .ok (.iload 4, 2) := by decide +kernel
theorem dJ7_fill_fda19_19 : decode cJ7_fill_fda19 19 = .ok (.iload_n 3, 1) := by decide +kernel
theorem dJ7_fill_fda19_20 : decode cJ7_fill_fda19 20 = .ok (.iastore, 1) := by decide +kernel
theorem dJ7_fill_fda19_21 : decode cJ7_fill_fda19 21 = .ok (.iinc 4 1, 3) := by decide +kernel
theorem dJ7_fill_fda19_24 : decode cJ7_fill_fda19 24 = .ok (.goto (-14), 3) := by decide +kernel
theorem dJ7_fill_fda19_27 : decode cJ7_fill_fda19 27 = .ok (.return_, 1) := by decide +kernel
theorem dJ9_floorMod_7cf53_0 : decode cJ9_floorMod_7cf53 0 = .ok (.iload_n 0, 1) := by decide +kernel
theorem dJ9_floorMod_7cf53_1 : decode cJ9_floorMod_7cf53 1 = .ok (.iload_n 1, 1) := by decide +kernel
theorem dJ9_floorMod_7cf53_2 : decode cJ9_floorMod_7cf53 2 = .ok (.irem, 1) := by decide +kernel
theorem dJ9_floorMod_7cf53_3 : decode cJ9_floorMod_7cf53 3 = .ok (.istore_n 2, 1) := by decide +kernel
theorem dJ9_floorMod_7cf53_4 : decode cJ9_floorMod_7cf53 4 = .ok (.iload_n 0, 1) := by decide +kernel
theorem dJ9_floorMod_7cf53_5 : decode cJ9_floorMod_7cf53 5 = .ok (.iload_n 1, 1) := by decide +kernel
theorem dJ9_floorMod_7cf53_6 : decode cJ9_floorMod_7cf53 6 = .ok (.ixor, 1) := by decide +kernel
theorem dJ9_floorMod_7cf53_7 : decode cJ9_floorMod_7cf53 7 = .ok (.ifCond .ge 11, 3) := by decide +kernel
theorem dJ9_floorMod_7cf53_10 : decode cJ9_floorMod_7cf53 10 = .ok (.iload_n 2, 1) := by decide +kernel
theorem dJ9_floorMod_7cf53_11 : decode cJ9_floorMod_7cf53 11 = .ok (.ifCond .eq 7, 3) := by decide +kernel
theorem dJ9_floorMod_7cf53_14 : decode cJ9_floorMod_7cf53 14 = .ok (.iload_n 2, 1) := by decide +kernel
theorem dJ9_floorMod_7cf53_15 : decode cJ9_floorMod_7cf53 15 = .ok (.iload_n 1, 1) := by decide +kernel
theorem dJ9_floorMod_7cf53_16 : decode cJ9_floorMod_7cf53 16 = .ok (.iadd, 1) := by decide +kernel
theorem dJ9_floorMod_7cf53_17 : decode cJ9_floorMod_7cf53 17 = .ok (.ireturn, 1) := by decide +kernel
theorem dJ9_floorMod_7cf53_18 : decode cJ9_floorMod_7cf53 18 = .ok (.iload_n 2, 1) := by decide +kernel
theorem dJ9_floorMod_7cf53_19 : decode cJ9_floorMod_7cf53 19 = .ok (.ireturn, 1) := by decide +kernel
theorem dJ9_abs_067f4_0 : decode cJ9_abs_067f4 0 = .ok (.lload_n 0, 1) := by decide +kernel
theorem dJ9_abs_067f4_1 : decode cJ9_abs_067f4 1 = .ok (.lconst 0, 1) := by decide +kernel
theorem dJ9_abs_067f4_2 : decode cJ9_abs_067f4 2 = .ok (.lcmp, 1) := by decide +kernel
theorem dJ9_abs_067f4_3 : decode cJ9_abs_067f4 3 = .ok (.ifCond .ge 8, 3) := by decide +kernel
theorem dJ9_abs_067f4_6 : decode cJ9_abs_067f4 6 = .ok (.lload_n 0, 1) := by decide +kernel
theorem dJ9_abs_067f4_7 : decode cJ9_abs_067f4 7 = .ok (.lneg, 1) := by decide +kernel
theorem dJ9_abs_067f4_8 : decode cJ9_abs_067f4 8 = .ok (.goto 4, 3) := by decide +kernel
theorem dJ9_abs_067f4_11 : decode cJ9_abs_067f4 11 = .ok (.lload_n 0, 1) := by decide +kernel
theorem dJ9_abs_067f4_12 : decode cJ9_abs_067f4 12 = .ok (.lreturn, 1) := by decide +kernel
theorem dJ9_max_7cf53_0 : decode cJ9_max_7cf53 0 = .ok (.iload_n 0, 1) := by decide +kernel
theorem dJ9_max_7cf53_1 : decode cJ9_max_7cf53 1 = .ok (.iload_n 1, 1) := by decide +kernel
theorem dJ9_max_7cf53_2 : decode cJ9_max_7cf53 2 = .ok (.if_icmp .lt 7, 3) := by decide +kernel
theorem dJ9_max_7cf53_5 : decode cJ9_max_7cf53 5 = .ok (.iload_n 0, 1) := by decide +kernel
theorem dJ9_max_7cf53_6 : decode cJ9_max_7cf53 6 = .ok (.goto 4, 3) := by decide +kernel
theorem dJ9_max_7cf53_9 : decode cJ9_max_7cf53 9 = .ok (.iload_n 1, 1) := by decide +kernel
theorem dJ9_max_7cf53_10 : decode cJ9_max_7cf53 10 = .ok (.ireturn, 1) := by decide +kernel
theorem dJ9_min_7cf53_0 : decode cJ9_min_7cf53 0 = .ok (.iload_n 0, 1) := by decide +kernel
theorem dJ9_min_7cf53_1 : decode cJ9_min_7cf53 1 = .ok (.iload_n 1, 1) := by decide +kernel
theorem dJ9_min_7cf53_2 : decode cJ9_min_7cf53 2 = .ok (.if_icmp .gt 7, 3) := by decide +kernel
theorem dJ9_min_7cf53_5 : decode cJ9_min_7cf53 5 = .ok (.iload_n 0, 1) := by decide +kernel
theorem dJ9_min_7cf53_6 : decode cJ9_min_7cf53 6 = .ok (.goto 4, 3) := by decide +kernel
theorem dJ9_min_7cf53_9 : decode cJ9_min_7cf53 9 = .ok (.iload_n 1, 1) := by decide +kernel
theorem dJ9_min_7cf53_10 : decode cJ9_min_7cf53 10 = .ok (.ireturn, 1) := by decide +kernel
theorem dX0_init_0 : decode cX0_init 0 = .ok (.aload_n 0, 1) := by decide +kernel
theorem dX0_init_1 : decode cX0_init 1 = .ok (.invokespecial 3, 3) := by decide +kernel
theorem dX0_init_4 : decode cX0_init 4 = .ok (.aload_n 0, 1) := by decide +kernel
theorem dX0_init_5 : decode cX0_init 5 = .ok (.sipush 200, 3) := by decide +kernel
theorem dX0_init_8 : decode cX0_init 8 = .ok (.newarray .long, 2) := by decide +kernel
theorem dX0_init_10 : decode cX0_init 10 = .ok (.putfield 9, 3) := by decide +kernel
theorem dX0_init_13 : decode cX0_init 13 = .ok (.aload_n 0, 1) := by decide +kernel
theorem dX0_init_14 : decode cX0_init 14 = .ok (.sipush 200, 3) := by decide +kernel
theorem dX0_init_17 : decode cX0_init 17 = .ok (.anewarray 15, 3) := by decide +kernel
theorem dX0_init_20 : decode cX0_init 20 = .ok (.putfield 17, 3) := by decide +kernel
theorem dX0_init_23 : decode cX0_init 23 = .ok (.return_, 1) := by decide +kernel
theorem dX0_has_0 : decode cX0_has 0 = .ok (.iconst 0, 1) := by decide +kernel
theorem dX0_has_1 : decode cX0_has 1 = .ok (.istore_n 3, 1) := by decide +kernel
theorem dX0_has_2 : decode cX0_has 2 = .ok (.iload_n 3, 1) := by decide +kernel
theorem dX0_has_3 : decode cX0_has 3 = .ok (.aload_n 0, 1) := by decide +kernel
theorem dX0_has_4 : decode cX0_has 4 = .ok (.getfield 21, 3) := by decide +kernel
theorem dX0_has_7 : decode cX0_has 7 = .ok (.if_icmp .ge 22, 3) := by decide +kernel
theorem dX0_has_10 : decode cX0_has 10 = .ok (.aload_n 0, 1) := by decide +kernel
theorem dX0_has_11 : decode cX0_has 11 = .ok (.getfield 9, 3) := by decide +kernel
theorem dX0_has_14 : decode cX0_has 14 = .ok (.iload_n 3, 1) := by decide +kernel
theorem dX0_has_15 : decode cX0_has 15 = .ok (.laload, 1) := by decide +kernel
theorem dX0_has_16 : decode cX0_has 16 = .ok (.lload_n 1, 1) := by decide +kernel
theorem dX0_has_17 : decode cX0_has 17 = .ok (.lcmp, 1) := by decide +kernel
theorem dX0_has_18 : decode cX0_has 18 = .ok (.ifCond .ne 5, 3) := by decide +kernel
theorem dX0_has_21 : decode cX0_has 21 = .ok (.iconst 1, 1) := by decide +kernel
theorem dX0_has_22 : decode cX0_has 22 = .ok (.ireturn, 1) := by decide +kernel
theorem dX0_has_23 : decode cX0_has 23 = .ok (.iinc 3 1, 3) := by decide +kernel
theorem dX0_has_26 : decode cX0_has 26 = .ok (.goto (-24), 3) := by decide +kernel
theorem dX0_has_29 : decode cX0_has 29 = .ok (.iconst 0, 1) := by decide +kernel
theorem dX0_has_30 : decode cX0_has 30 = .ok (.ireturn, 1) := by decide +kernel
theorem dX0_add_0 : decode cX0_add 0 = .ok (.aload_n 0, 1) := by decide +kernel
theorem dX0_add_1 : decode cX0_add 1 = .ok (.getfield 21, 3) := by decide +kernel
theorem dX0_add_4 : decode cX0_add 4 = .ok (.sipush 200, 3) := by decide +kernel
theorem dX0_add_7 : decode cX0_add 7 = .ok (.if_icmp .lt 4, 3) := by decide +kernel
theorem dX0_add_10 : decode cX0_add 10 = .ok (.return_, 1) := by decide +kernel
theorem dX0_add_11 : decode cX0_add 11 = .ok (.aload_n 0, 1) := by decide +kernel
theorem dX0_add_12 : decode cX0_add 12 = .ok (.getfield 9, 3) := by decide +kernel
theorem dX0_add_15 : decode cX0_add 15 = .ok (.aload_n 0, 1) := by decide +kernel
theorem dX0_add_16 : decode cX0_add 16 = .ok (.getfield 21, 3) := by decide +kernel
theorem dX0_add_19 : decode cX0_add 19 = .ok (.lload_n 1, 1) := by decide +kernel
theorem dX0_add_20 : decode cX0_add 20 = .ok (.lastore, 1) := by decide +kernel
theorem dX0_add_21 : decode cX0_add 21 = .ok (.aload_n 0, 1) := by decide +kernel
theorem dX0_add_22 : decode cX0_add 22 = .ok (.getfield 17, 3) := by decide +kernel
theorem dX0_add_25 : decode cX0_add 25 = .ok (.aload_n 0, 1) := by decide +kernel
theorem dX0_add_26 : decode cX0_add 26 = .ok (.getfield 21, 3) := by decide +kernel
theorem dX0_add_29 : decode cX0_add 29 = .ok (.new 15, 3) := by decide +kernel
theorem dX0_add_32 : decode cX0_add 32 = .ok (.dup, 1) := by decide +kernel
theorem dX0_add_33 : decode cX0_add 33 = .ok (.invokespecial 25, 3) := by decide +kernel
theorem dX0_add_36 : decode cX0_add 36 = .ok (.aastore, 1) := by decide +kernel
theorem dX0_add_37 : decode cX0_add 37 = .ok (.aload_n 0, 1) := by decide +kernel
theorem dX0_add_38 : decode cX0_add 38 = .ok (.getfield 17, 3) := by decide +kernel
theorem dX0_add_41 : decode cX0_add 41 = .ok (.aload_n 0, 1) := by decide +kernel
theorem dX0_add_42 : decode cX0_add 42 = .ok (.getfield 21, 3) := by decide +kernel
theorem dX0_add_45 : decode cX0_add 45 = .ok (.aaload, 1) := by decide +kernel
theorem dX0_add_46 : decode cX0_add 46 = .ok (.aload_n 3, 1) := by decide +kernel
theorem dX0_add_47 : decode cX0_add 47 = .ok (.invokevirtual 26, 3) := by decide +kernel
theorem dX0_add_50 : decode cX0_add 50 = .ok (.aload_n 0, 1) := by decide +kernel
theorem dX0_add_51 : decode cX0_add 51 = .ok (.dup, 1) := by decide +kernel
theorem dX0_add_52 : decode cX0_add 52 = .ok (.getfield 21, 3) := by decide +kernel
theorem dX0_add_55 : decode cX0_add 55 = .ok (.iconst 1, 1) := by decide +kernel
theorem dX0_add_56 : decode cX0_add 56 = .ok (.iadd, 1) := by decide +kernel
theorem dX0_add_57 : decode cX0_add 57 = .ok (.putfield 21, 3) := by decide +kernel
theorem dX0_add_60 : decode cX0_add 60 = .ok (.return_, 1) := by decide +kernel
theorem dX0_firstFor_0 : decode cX0_firstFor 0 = .ok (.iconst 0, 1) := by decide +kernel
theorem dX0_firstFor_1 : decode cX0_firstFor 1 = .ok (.istore_n 2, 1) := by decide +kernel
theorem dX0_firstFor_2 : decode cX0_firstFor 2 = .ok (.iload_n 2, 1) := by decide +kernel
theorem dX0_firstFor_3 : decode cX0_firstFor 3 = .ok (.aload_n 0, 1) := by decide +kernel
theorem dX0_firstFor_4 : decode cX0_firstFor 4 = .ok (.getfield 21, 3) := by decide +kernel
theorem dX0_firstFor_7 : decode cX0_firstFor 7 = .ok (.if_icmp .ge 29, 3) := by decide +kernel
theorem dX0_firstFor_10 : decode cX0_firstFor 10 = .ok (.aload_n 0, 1) := by decide +kernel
theorem dX0_firstFor_11 : decode cX0_firstFor 11 = .ok (.getfield 17, 3) := by decide +kernel
theorem dX0_firstFor_14 : decode cX0_firstFor 14 = .ok (.iload_n 2, 1) := by decide +kernel
theorem dX0_firstFor_15 : decode cX0_firstFor 15 = .ok (.aaload, 1) := by decide +kernel
theorem dX0_firstFor_16 : decode cX0_firstFor 16 = .ok (.aload_n 1, 1) := by decide +kernel
theorem dX0_firstFor_17 : decode cX0_firstFor 17 = .ok (.invokevirtual 30, 3) := by decide +kernel
theorem dX0_firstFor_20 : decode cX0_firstFor 20 = .ok (.ifCond .eq 10, 3) := by decide +kernel
theorem dX0_firstFor_23 : decode cX0_firstFor 23 = .ok (.aload_n 0, 1) := by decide +kernel
theorem dX0_firstFor_24 : decode cX0_firstFor 24 = .ok (.getfield 9, 3) := by decide +kernel
theorem dX0_firstFor_27 : decode cX0_firstFor 27 = .ok (.iload_n 2, 1) := by decide +kernel
theorem dX0_firstFor_28 : decode cX0_firstFor 28 = .ok (.laload, 1) := by decide +kernel
theorem dX0_firstFor_29 : decode cX0_firstFor 29 = .ok (.lreturn, 1) := by decide +kernel
theorem dX0_firstFor_30 : decode cX0_firstFor 30 = .ok (.iinc 2 1, 3) := by decide +kernel
theorem dX0_firstFor_33 : decode cX0_firstFor 33 = .ok (.goto (-31), 3) := by decide +kernel
theorem dX0_firstFor_36 : decode cX0_firstFor 36 = .ok (.lconst 0, 1) := by decide +kernel
theorem dX0_firstFor_37 : decode cX0_firstFor 37 = .ok (.lreturn, 1) := by decide +kernel
theorem dX1_init_0 : decode cX1_init 0 = .ok (.aload_n 0, 1) := by decide +kernel
theorem dX1_init_1 : decode cX1_init 1 = .ok (.invokespecial 3, 3) := by decide +kernel
theorem dX1_init_4 : decode cX1_init 4 = .ok (.aload_n 0, 1) := by decide +kernel
theorem dX1_init_5 : decode cX1_init 5 = .ok (.sipush 160, 3) := by decide +kernel
theorem dX1_init_8 : decode cX1_init 8 = .ok (.newarray .int, 2) := by decide +kernel
theorem dX1_init_10 : decode cX1_init 10 = .ok (.putfield 9, 3) := by decide +kernel
theorem dX1_init_13 : decode cX1_init 13 = .ok (.aload_n 0, 1) := by decide +kernel
theorem dX1_init_14 : decode cX1_init 14 = .ok (.bipush 40, 2) := by decide +kernel
theorem dX1_init_16 : decode cX1_init 16 = .ok (.bipush 80, 2) := by decide +kernel
theorem dX1_init_18 : decode cX1_init 18 = .ok (.multianewarray 15 2, 4) := by decide +kernel
theorem dX1_init_22 : decode cX1_init 22 = .ok (.putfield 17, 3) := by decide +kernel
theorem dX1_init_25 : decode cX1_init 25 = .ok (.return_, 1) := by decide +kernel
theorem dX1_powerOf_0 : decode cX1_powerOf 0 = .ok (.iload_n 2, 1) := by decide +kernel
theorem dX1_powerOf_1 : decode cX1_powerOf 1 = .ok (.iconst 2, 1) := by decide +kernel
theorem dX1_powerOf_2 : decode cX1_powerOf 2 = .ok (.if_icmp .ge 5, 3) := by decide +kernel
theorem dX1_powerOf_5 : decode cX1_powerOf 5 = .ok (.iconst 0, 1) := by decide +kernel
theorem dX1_powerOf_6 : decode cX1_powerOf 6 = .ok (.ireturn, 1) := by decide +kernel
theorem dX1_powerOf_7 : decode cX1_powerOf 7 = .ok (.aload_n 0, 1) := by decide +kernel
theorem dX1_powerOf_8 : decode cX1_powerOf 8 = .ok (.aload_n 1, 1) := by decide +kernel
theorem dX1_powerOf_9 : decode cX1_powerOf 9 = .ok (.invokevirtual 20, 3) := by decide +kernel
theorem dX1_powerOf_12 : decode cX1_powerOf 12 = .ok (.iconst 0, 1) := by decide +kernel
theorem dX1_powerOf_13 : decode cX1_powerOf 13 = .ok (.istore_n 3, 1) := by decide +kernel
theorem dX1_powerOf_14 : decode cX1_powerOf 14 = .ok (.iload_n 3, 1) := by decide +kernel
theorem dX1_powerOf_15 : decode cX1_powerOf 15 = .ok (.aload_n 1, 1) := by decide +kernel
theorem dX1_powerOf_16 : decode cX1_powerOf 16 = .ok (.getfield 24, 3) := by decide +kernel
theorem dX1_powerOf_19 : decode cX1_powerOf 19 = .ok (.if_icmp .ge 83, 3) := by decide +kernel
theorem dX1_powerOf_22 : decode cX1_powerOf 22 = .ok (.aload_n 0, 1) := by decide +kernel
theorem dX1_powerOf_23 : decode cX1_powerOf 23 = .ok (.getfield 17, 3) := by decide +kernel
theorem dX1_powerOf_26 : decode cX1_powerOf 26 = .ok (.iload_n 3, 1) := by decide +kernel
theorem dX1_powerOf_27 : decode cX1_powerOf 27 = .ok (.aaload, 1) := by decide +kernel
theorem dX1_powerOf_28 : decode cX1_powerOf 28 = .ok (.astore 4, 2) := by decide +kernel
theorem dX1_powerOf_30 : decode cX1_powerOf 30 = .ok (.aload 4, 2) := by decide +kernel
theorem dX1_powerOf_32 : decode cX1_powerOf 32 = .ok (.iconst 0, 1) := by decide +kernel
theorem dX1_powerOf_33 : decode cX1_powerOf 33 = .ok (.invokestatic 30, 3) := by decide +kernel
theorem dX1_powerOf_36 : decode cX1_powerOf 36 = .ok (.aload 4, 2) := by decide +kernel
theorem dX1_powerOf_38 : decode cX1_powerOf 38 = .ok (.aload_n 0, 1) := by decide +kernel
theorem dX1_powerOf_39 : decode cX1_powerOf 39 = .ok (.getfield 9, 3) := by decide +kernel
theorem dX1_powerOf_42 : decode cX1_powerOf 42 = .ok (.iconst 4, 1) := by decide +kernel
theorem dX1_powerOf_43 : decode cX1_powerOf 43 = .ok (.iload_n 3, 1) := by decide +kernel
theorem dX1_powerOf_44 : decode cX1_powerOf 44 = .ok (.imul, 1) := by decide +kernel
theorem dX1_powerOf_45 : decode cX1_powerOf 45 = .ok (.iaload, 1) := by decide +kernel
theorem dX1_powerOf_46 : decode cX1_powerOf 46 = .ok (.dup2, 1) := by decide +kernel
theorem dX1_powerOf_47 : decode cX1_powerOf 47 = .ok (.iaload, 1) := by decide +kernel
theorem dX1_powerOf_48 : decode cX1_powerOf 48 = .ok (.iconst 1, 1) := by decide +kernel
theorem dX1_powerOf_49 : decode cX1_powerOf 49 = .ok (.iadd, 1) := by decide +kernel
theorem dX1_powerOf_50 : decode cX1_powerOf 50 = .ok (.iastore, 1) := by decide +kernel
theorem dX1_powerOf_51 : decode cX1_powerOf 51 = .ok (.aload 4, 2) := by decide +kernel
theorem dX1_powerOf_53 : decode cX1_powerOf 53 = .ok (.aload_n 0, 1) := by decide +kernel
theorem dX1_powerOf_54 : decode cX1_powerOf 54 = .ok (.getfield 9, 3) := by decide +kernel
theorem dX1_powerOf_57 : decode cX1_powerOf 57 = .ok (.iconst 4, 1) := by decide +kernel
theorem dX1_powerOf_58 : decode cX1_powerOf 58 = .ok (.iload_n 3, 1) := by decide +kernel
theorem dX1_powerOf_59 : decode cX1_powerOf 59 = .ok (.imul, 1) := by decide +kernel
theorem dX1_powerOf_60 : decode cX1_powerOf 60 = .ok (.iconst 2, 1) := by decide +kernel
theorem dX1_powerOf_61 : decode cX1_powerOf 61 = .ok (.iadd, 1) := by decide +kernel
theorem dX1_powerOf_62 : decode cX1_powerOf 62 = .ok (.iaload, 1) := by decide +kernel
theorem dX1_powerOf_63 : decode cX1_powerOf 63 = .ok (.dup2, 1) := by decide +kernel
theorem dX1_powerOf_64 : decode cX1_powerOf 64 = .ok (.iaload, 1) := by decide +kernel
theorem dX1_powerOf_65 : decode cX1_powerOf 65 = .ok (.iconst 1, 1) := by decide +kernel
theorem dX1_powerOf_66 : decode cX1_powerOf 66 = .ok (.iadd, 1) := by decide +kernel
theorem dX1_powerOf_67 : decode cX1_powerOf 67 = .ok (.iastore, 1) := by decide +kernel
theorem dX1_powerOf_68 : decode cX1_powerOf 68 = .ok (.aload_n 0, 1) := by decide +kernel
theorem dX1_powerOf_69 : decode cX1_powerOf 69 = .ok (.getfield 9, 3) := by decide +kernel
theorem dX1_powerOf_72 : decode cX1_powerOf 72 = .ok (.iconst 4, 1) := by decide +kernel
theorem dX1_powerOf_73 : decode cX1_powerOf 73 = .ok (.iload_n 3, 1) := by decide +kernel
theorem dX1_powerOf_74 : decode cX1_powerOf 74 = .ok (.imul, 1) := by decide +kernel
theorem dX1_powerOf_75 : decode cX1_powerOf 75 = .ok (.iconst 1, 1) := by decide +kernel
theorem dX1_powerOf_76 : decode cX1_powerOf 76 = .ok (.iadd, 1) := by decide +kernel
theorem dX1_powerOf_77 : decode cX1_powerOf 77 = .ok (.iaload, 1) := by decide +kernel
theorem dX1_powerOf_78 : decode cX1_powerOf 78 = .ok (.istore 5, 2) := by decide +kernel
theorem dX1_powerOf_80 : decode cX1_powerOf 80 = .ok (.aload 4, 2) := by decide +kernel
theorem dX1_powerOf_82 : decode cX1_powerOf 82 = .ok (.iload 5, 2) := by decide +kernel
theorem dX1_powerOf_84 : decode cX1_powerOf 84 = .ok (.aload 4, 2) := by decide +kernel
theorem dX1_powerOf_86 : decode cX1_powerOf 86 = .ok (.iload 5, 2) := by decide +kernel
theorem dX1_powerOf_88 : decode cX1_powerOf 88 = .ok (.iaload, 1) := by decide +kernel
theorem dX1_powerOf_89 : decode cX1_powerOf 89 = .ok (.iconst 2, 1) := by decide +kernel
theorem dX1_powerOf_90 : decode cX1_powerOf 90 = .ok (.isub, 1) := by decide +kernel
theorem dX1_powerOf_91 : decode cX1_powerOf 91 = .ok (.iload_n 2, 1) := by decide +kernel
theorem dX1_powerOf_92 : decode cX1_powerOf 92 = .ok (.invokestatic 36, 3) := by decide +kernel
theorem dX1_powerOf_95 : decode cX1_powerOf 95 = .ok (.iastore, 1) := by decide +kernel
theorem dX1_powerOf_96 : decode cX1_powerOf 96 = .ok (.iinc 3 1, 3) := by decide +kernel
theorem dX1_powerOf_99 : decode cX1_powerOf 99 = .ok (.goto (-85), 3) := by decide +kernel
theorem dX1_powerOf_102 : decode cX1_powerOf 102 = .ok (.aload_n 0, 1) := by decide +kernel
theorem dX1_powerOf_103 : decode cX1_powerOf 103 = .ok (.getfield 42, 3) := by decide +kernel
theorem dX1_powerOf_106 : decode cX1_powerOf 106 = .ok (.aload_n 0, 1) := by decide +kernel
theorem dX1_powerOf_107 : decode cX1_powerOf 107 = .ok (.aload_n 1, 1) := by decide +kernel
theorem dX1_powerOf_108 : decode cX1_powerOf 108 = .ok (.getfield 24, 3) := by decide +kernel
theorem dX1_powerOf_111 : decode cX1_powerOf 111 = .ok (.iload_n 2, 1) := by decide +kernel
theorem dX1_powerOf_112 : decode cX1_powerOf 112 = .ok (.invokevirtual 45, 3) := by decide +kernel
theorem dX1_powerOf_115 : decode cX1_powerOf 115 = .ok (.isub, 1) := by decide +kernel
theorem dX1_powerOf_116 : decode cX1_powerOf 116 = .ok (.aload_n 1, 1) := by decide +kernel
theorem dX1_powerOf_117 : decode cX1_powerOf 117 = .ok (.getfield 48, 3) := by decide +kernel
theorem dX1_powerOf_120 : decode cX1_powerOf 120 = .ok (.iadd, 1) := by decide +kernel
theorem dX1_powerOf_121 : decode cX1_powerOf 121 = .ok (.ireturn, 1) := by decide +kernel
theorem dX1_findStrands_0 : decode cX1_findStrands 0 = .ok (.aload_n 0, 1) := by decide +kernel
theorem dX1_findStrands_1 : decode cX1_findStrands 1 = .ok (.getfield 9, 3) := by decide +kernel
theorem dX1_findStrands_4 : decode cX1_findStrands 4 = .ok (.iconst (-1), 1) := by decide +kernel
theorem dX1_findStrands_5 : decode cX1_findStrands 5 = .ok (.invokestatic 30, 3) := by decide +kernel
theorem dX1_findStrands_8 : decode cX1_findStrands 8 = .ok (.aload_n 0, 1) := by decide +kernel
theorem dX1_findStrands_9 : decode cX1_findStrands 9 = .ok (.iconst 0, 1) := by decide +kernel
theorem dX1_findStrands_10 : decode cX1_findStrands 10 = .ok (.putfield 42, 3) := by decide +kernel
theorem dX1_findStrands_13 : decode cX1_findStrands 13 = .ok (.iconst 0, 1) := by decide +kernel
theorem dX1_findStrands_14 : decode cX1_findStrands 14 = .ok (.istore_n 2, 1) := by decide +kernel
theorem dX1_findStrands_15 : decode cX1_findStrands 15 = .ok (.iload_n 2, 1) := by decide +kernel
theorem dX1_findStrands_16 : decode cX1_findStrands 16 = .ok (.iconst 4, 1) := by decide +kernel
theorem dX1_findStrands_17 : decode cX1_findStrands 17 = .ok (.aload_n 1, 1) := by decide +kernel
theorem dX1_findStrands_18 : decode cX1_findStrands 18 = .ok (.getfield 24, 3) := by decide +kernel
theorem dX1_findStrands_21 : decode cX1_findStrands 21 = .ok (.imul, 1) := by decide +kernel
theorem dX1_findStrands_22 : decode cX1_findStrands 22 = .ok (.if_icmp .ge 54, 3) := by decide +kernel
theorem dX1_findStrands_25 : decode cX1_findStrands 25 = .ok (.aload_n 0, 1) := by decide +kernel
theorem dX1_findStrands_26 : decode cX1_findStrands 26 = .ok (.getfield 9, 3) := by decide +kernel
theorem dX1_findStrands_29 : decode cX1_findStrands 29 = .ok (.iload_n 2, 1) := by decide +kernel
theorem dX1_findStrands_30 : decode cX1_findStrands 30 = .ok (.iaload, 1) := by decide +kernel
theorem dX1_findStrands_31 : decode cX1_findStrands 31 = .ok (.ifCond .lt 6, 3) := by decide +kernel
theorem dX1_findStrands_34 : decode cX1_findStrands 34 = .ok (.goto 36, 3) := by decide +kernel
theorem dX1_findStrands_37 : decode cX1_findStrands 37 = .ok (.aload_n 0, 1) := by decide +kernel
theorem dX1_findStrands_38 : decode cX1_findStrands 38 = .ok (.aload_n 1, 1) := by decide +kernel
theorem dX1_findStrands_39 : decode cX1_findStrands 39 = .ok (.iload_n 2, 1) := by decide +kernel
theorem dX1_findStrands_40 : decode cX1_findStrands 40 = .ok (.invokevirtual 51, 3) := by decide +kernel
theorem dX1_findStrands_43 : decode cX1_findStrands 43 = .ok (.iload_n 2, 1) := by decide +kernel
theorem dX1_findStrands_44 : decode cX1_findStrands 44 = .ok (.iconst 1, 1) := by decide +kernel
theorem dX1_findStrands_45 : decode cX1_findStrands 45 = .ok (.iand, 1) := by decide +kernel
theorem dX1_findStrands_46 : decode cX1_findStrands 46 = .ok (.iconst 1, 1) := by decide +kernel
theorem dX1_findStrands_47 : decode cX1_findStrands 47 = .ok (.if_icmp .ne 13, 3) := by decide +kernel
theorem dX1_findStrands_50 : decode cX1_findStrands 50 = .ok (.aload_n 0, 1) := by decide +kernel
theorem dX1_findStrands_51 : decode cX1_findStrands 51 = .ok (.aload_n 1, 1) := by decide +kernel
theorem dX1_findStrands_52 : decode cX1_findStrands 52 = .ok (.iload_n 2, 1) := by decide +kernel
theorem dX1_findStrands_53 : decode cX1_findStrands 53 = .ok (.iconst 2, 1) := by decide +kernel
theorem dX1_findStrands_54 : decode cX1_findStrands 54 = .ok (.invokestatic 55, 3) := by decide +kernel
theorem dX1_findStrands_57 : decode cX1_findStrands 57 = .ok (.invokevirtual 51, 3) := by decide +kernel
theorem dX1_findStrands_60 : decode cX1_findStrands 60 = .ok (.aload_n 0, 1) := by decide +kernel
theorem dX1_findStrands_61 : decode cX1_findStrands 61 = .ok (.dup, 1) := by decide +kernel
theorem dX1_findStrands_62 : decode cX1_findStrands 62 = .ok (.getfield 42, 3) := by decide +kernel
theorem dX1_findStrands_65 : decode cX1_findStrands 65 = .ok (.iconst 1, 1) := by decide +kernel
theorem dX1_findStrands_66 : decode cX1_findStrands 66 = .ok (.iadd, 1) := by decide +kernel
theorem dX1_findStrands_67 : decode cX1_findStrands 67 = .ok (.putfield 42, 3) := by decide +kernel
theorem dX1_findStrands_70 : decode cX1_findStrands 70 = .ok (.iinc 2 1, 3) := by decide +kernel
theorem dX1_findStrands_73 : decode cX1_findStrands 73 = .ok (.goto (-58), 3) := by decide +kernel
theorem dX1_findStrands_76 : decode cX1_findStrands 76 = .ok (.return_, 1) := by decide +kernel
theorem dX1_walkStrand_0 : decode cX1_walkStrand 0 = .ok (.iload_n 2, 1) := by decide +kernel
theorem dX1_walkStrand_1 : decode cX1_walkStrand 1 = .ok (.istore_n 3, 1) := by decide +kernel
theorem dX1_walkStrand_2 : decode cX1_walkStrand 2 = .ok (.iconst 0, 1) := by decide +kernel
theorem dX1_walkStrand_3 : decode cX1_walkStrand 3 = .ok (.istore 4, 2) := by decide +kernel
theorem dX1_walkStrand_5 : decode cX1_walkStrand 5 = .ok (.iload 4, 2) := by decide +kernel
theorem dX1_walkStrand_7 : decode cX1_walkStrand 7 = .ok (.sipush 160, 3) := by decide +kernel
theorem dX1_walkStrand_10 : decode cX1_walkStrand 10 = .ok (.if_icmp .ge 62, 3) := by decide +kernel
theorem dX1_walkStrand_13 : decode cX1_walkStrand 13 = .ok (.aload_n 0, 1) := by decide +kernel
theorem dX1_walkStrand_14 : decode cX1_walkStrand 14 = .ok (.getfield 9, 3) := by decide +kernel
theorem dX1_walkStrand_17 : decode cX1_walkStrand 17 = .ok (.iload_n 3, 1) := by decide +kernel
theorem dX1_walkStrand_18 : decode cX1_walkStrand 18 = .ok (.iaload, 1) := by decide +kernel
theorem dX1_walkStrand_19 : decode cX1_walkStrand 19 = .ok (.ifCond .ge 53, 3) := by decide +kernel
theorem dX1_walkStrand_22 : decode cX1_walkStrand 22 = .ok (.aload_n 1, 1) := by decide +kernel
theorem dX1_walkStrand_23 : decode cX1_walkStrand 23 = .ok (.getfield 58, 3) := by decide +kernel
theorem dX1_walkStrand_26 : decode cX1_walkStrand 26 = .ok (.iload_n 3, 1) := by decide +kernel
theorem dX1_walkStrand_27 : decode cX1_walkStrand 27 = .ok (.iaload, 1) := by decide +kernel
theorem dX1_walkStrand_28 : decode cX1_walkStrand 28 = .ok (.istore 5, 2) := by decide +kernel
theorem dX1_walkStrand_30 : decode cX1_walkStrand 30 = .ok (.aload_n 0, 1) := by decide +kernel
theorem dX1_walkStrand_31 : decode cX1_walkStrand 31 = .ok (.getfield 9, 3) := by decide +kernel
theorem dX1_walkStrand_34 : decode cX1_walkStrand 34 = .ok (.iload_n 3, 1) := by decide +kernel
theorem dX1_walkStrand_35 : decode cX1_walkStrand 35 = .ok (.aload_n 0, 1) := by decide +kernel
theorem dX1_walkStrand_36 : decode cX1_walkStrand 36 = .ok (.getfield 42, 3) := by decide +kernel
theorem dX1_walkStrand_39 : decode cX1_walkStrand 39 = .ok (.iastore, 1) := by decide +kernel
theorem dX1_walkStrand_40 : decode cX1_walkStrand 40 = .ok (.aload_n 0, 1) := by decide +kernel
theorem dX1_walkStrand_41 : decode cX1_walkStrand 41 = .ok (.getfield 9, 3) := by decide +kernel
theorem dX1_walkStrand_44 : decode cX1_walkStrand 44 = .ok (.iload 5, 2) := by decide +kernel
theorem dX1_walkStrand_46 : decode cX1_walkStrand 46 = .ok (.aload_n 0, 1) := by decide +kernel
theorem dX1_walkStrand_47 : decode cX1_walkStrand 47 = .ok (.getfield 42, 3) := by decide +kernel
theorem dX1_walkStrand_50 : decode cX1_walkStrand 50 = .ok (.iastore, 1) := by decide +kernel
theorem dX1_walkStrand_51 : decode cX1_walkStrand 51 = .ok (.iload 5, 2) := by decide +kernel
theorem dX1_walkStrand_53 : decode cX1_walkStrand 53 = .ok (.iconst 1, 1) := by decide +kernel
theorem dX1_walkStrand_54 : decode cX1_walkStrand 54 = .ok (.iand, 1) := by decide +kernel
theorem dX1_walkStrand_55 : decode cX1_walkStrand 55 = .ok (.ifCond .ne 4, 3) := by decide +kernel
theorem dX1_walkStrand_58 : decode cX1_walkStrand 58 = .ok (.return_, 1) := by decide +kernel
theorem dX1_walkStrand_59 : decode cX1_walkStrand 59 = .ok (.iload 5, 2) := by decide +kernel
theorem dX1_walkStrand_61 : decode cX1_walkStrand 61 = .ok (.iconst 2, 1) := by decide +kernel
theorem dX1_walkStrand_62 : decode cX1_walkStrand 62 = .ok (.invokestatic 55, 3) := by decide +kernel
theorem dX1_walkStrand_65 : decode cX1_walkStrand 65 = .ok (.istore_n 3, 1) := by decide +kernel
theorem dX1_walkStrand_66 : decode cX1_walkStrand 66 = .ok (.iinc 4 1, 3) := by decide +kernel
theorem dX1_walkStrand_69 : decode cX1_walkStrand 69 = .ok (.goto (-64), 3) := by decide +kernel
theorem dX1_walkStrand_72 : decode cX1_walkStrand 72 = .ok (.return_, 1) := by decide +kernel
theorem dX1_rank_0 : decode cX1_rank 0 = .ok (.iconst 0, 1) := by decide +kernel
theorem dX1_rank_1 : decode cX1_rank 1 = .ok (.istore_n 3, 1) := by decide +kernel
theorem dX1_rank_2 : decode cX1_rank 2 = .ok (.iconst 0, 1) := by decide +kernel
theorem dX1_rank_3 : decode cX1_rank 3 = .ok (.istore 4, 2) := by decide +kernel
theorem dX1_rank_5 : decode cX1_rank 5 = .ok (.iload 4, 2) := by decide +kernel
theorem dX1_rank_7 : decode cX1_rank 7 = .ok (.aload_n 0, 1) := by decide +kernel
theorem dX1_rank_8 : decode cX1_rank 8 = .ok (.getfield 42, 3) := by decide +kernel
theorem dX1_rank_11 : decode cX1_rank 11 = .ok (.if_icmp .ge 71, 3) := by decide +kernel
theorem dX1_rank_14 : decode cX1_rank 14 = .ok (.iload_n 3, 1) := by decide +kernel
theorem dX1_rank_15 : decode cX1_rank 15 = .ok (.iload_n 1, 1) := by decide +kernel
theorem dX1_rank_16 : decode cX1_rank 16 = .ok (.if_icmp .ge 66, 3) := by decide +kernel
theorem dX1_rank_19 : decode cX1_rank 19 = .ok (.aload_n 0, 1) := by decide +kernel
theorem dX1_rank_20 : decode cX1_rank 20 = .ok (.iload 4, 2) := by decide +kernel
theorem dX1_rank_22 : decode cX1_rank 22 = .ok (.iload_n 3, 1) := by decide +kernel
theorem dX1_rank_23 : decode cX1_rank 23 = .ok (.iload_n 1, 1) := by decide +kernel
theorem dX1_rank_24 : decode cX1_rank 24 = .ok (.invokevirtual 61, 3) := by decide +kernel
theorem dX1_rank_27 : decode cX1_rank 27 = .ok (.istore 5, 2) := by decide +kernel
theorem dX1_rank_29 : decode cX1_rank 29 = .ok (.iload 5, 2) := by decide +kernel
theorem dX1_rank_31 : decode cX1_rank 31 = .ok (.ifCond .lt 45, 3) := by decide +kernel
theorem dX1_rank_34 : decode cX1_rank 34 = .ok (.aload_n 0, 1) := by decide +kernel
theorem dX1_rank_35 : decode cX1_rank 35 = .ok (.getfield 17, 3) := by decide +kernel
theorem dX1_rank_38 : decode cX1_rank 38 = .ok (.iload 5, 2) := by decide +kernel
theorem dX1_rank_40 : decode cX1_rank 40 = .ok (.aaload, 1) := by decide +kernel
theorem dX1_rank_41 : decode cX1_rank 41 = .ok (.astore 6, 2) := by decide +kernel
theorem dX1_rank_43 : decode cX1_rank 43 = .ok (.aload_n 0, 1) := by decide +kernel
theorem dX1_rank_44 : decode cX1_rank 44 = .ok (.getfield 17, 3) := by decide +kernel
theorem dX1_rank_47 : decode cX1_rank 47 = .ok (.iload 5, 2) := by decide +kernel
theorem dX1_rank_49 : decode cX1_rank 49 = .ok (.aload_n 0, 1) := by decide +kernel
theorem dX1_rank_50 : decode cX1_rank 50 = .ok (.getfield 17, 3) := by decide +kernel
theorem dX1_rank_53 : decode cX1_rank 53 = .ok (.iload_n 3, 1) := by decide +kernel
theorem dX1_rank_54 : decode cX1_rank 54 = .ok (.aaload, 1) := by decide +kernel
theorem dX1_rank_55 : decode cX1_rank 55 = .ok (.aastore, 1) := by decide +kernel
theorem dX1_rank_56 : decode cX1_rank 56 = .ok (.aload_n 0, 1) := by decide +kernel
theorem dX1_rank_57 : decode cX1_rank 57 = .ok (.getfield 17, 3) := by decide +kernel
theorem dX1_rank_60 : decode cX1_rank 60 = .ok (.iload_n 3, 1) := by decide +kernel
theorem dX1_rank_61 : decode cX1_rank 61 = .ok (.aload 6, 2) := by decide +kernel
theorem dX1_rank_63 : decode cX1_rank 63 = .ok (.aastore, 1) := by decide +kernel
theorem dX1_rank_64 : decode cX1_rank 64 = .ok (.aload_n 0, 1) := by decide +kernel
theorem dX1_rank_65 : decode cX1_rank 65 = .ok (.iload 4, 2) := by decide +kernel
theorem dX1_rank_67 : decode cX1_rank 67 = .ok (.iload_n 3, 1) := by decide +kernel
theorem dX1_rank_68 : decode cX1_rank 68 = .ok (.iload_n 1, 1) := by decide +kernel
theorem dX1_rank_69 : decode cX1_rank 69 = .ok (.iload_n 2, 1) := by decide +kernel
theorem dX1_rank_70 : decode cX1_rank 70 = .ok (.invokevirtual 65, 3) := by decide +kernel
theorem dX1_rank_73 : decode cX1_rank 73 = .ok (.iinc 3 1, 3) := by decide +kernel
theorem dX1_rank_76 : decode cX1_rank 76 = .ok (.iinc 4 1, 3) := by decide +kernel
theorem dX1_rank_79 : decode cX1_rank 79 = .ok (.goto (-74), 3) := by decide +kernel
theorem dX1_rank_82 : decode cX1_rank 82 = .ok (.iload_n 3, 1) := by decide +kernel
theorem dX1_rank_83 : decode cX1_rank 83 = .ok (.ireturn, 1) := by decide +kernel
theorem dX1_pivotOf_0 : decode cX1_pivotOf 0 = .ok (.iload_n 2, 1) := by decide +kernel
theorem dX1_pivotOf_1 : decode cX1_pivotOf 1 = .ok (.istore 4, 2) := by decide +kernel
theorem dX1_pivotOf_3 : decode cX1_pivotOf 3 = .ok (.iload 4, 2) := by decide +kernel
theorem dX1_pivotOf_5 : decode cX1_pivotOf 5 = .ok (.iload_n 3, 1) := by decide +kernel
theorem dX1_pivotOf_6 : decode cX1_pivotOf 6 = .ok (.if_icmp .ge 24, 3) := by decide +kernel
theorem dX1_pivotOf_9 : decode cX1_pivotOf 9 = .ok (.aload_n 0, 1) := by decide +kernel
theorem dX1_pivotOf_10 : decode cX1_pivotOf 10 = .ok (.getfield 17, 3) := by decide +kernel
theorem dX1_pivotOf_13 : decode cX1_pivotOf 13 = .ok (.iload 4, 2) := by decide +kernel
theorem dX1_pivotOf_15 : decode cX1_pivotOf 15 = .ok (.aaload, 1) := by decide +kernel
theorem dX1_pivotOf_16 : decode cX1_pivotOf 16 = .ok (.iload_n 1, 1) := by decide +kernel
theorem dX1_pivotOf_17 : decode cX1_pivotOf 17 = .ok (.iaload, 1) := by decide +kernel
theorem dX1_pivotOf_18 : decode cX1_pivotOf 18 = .ok (.ifCond .eq 6, 3) := by decide +kernel
theorem dX1_pivotOf_21 : decode cX1_pivotOf 21 = .ok (.iload 4, 2) := by decide +kernel
theorem dX1_pivotOf_23 : decode cX1_pivotOf 23 = .ok (.ireturn, 1) := by decide +kernel
theorem dX1_pivotOf_24 : decode cX1_pivotOf 24 = .ok (.iinc 4 1, 3) := by decide +kernel
theorem dX1_pivotOf_27 : decode cX1_pivotOf 27 = .ok (.goto (-24), 3) := by decide +kernel
theorem dX1_pivotOf_30 : decode cX1_pivotOf 30 = .ok (.iconst (-1), 1) := by decide +kernel
theorem dX1_pivotOf_31 : decode cX1_pivotOf 31 = .ok (.ireturn, 1) := by decide +kernel
theorem dX1_inverse_0 : decode cX1_inverse 0 = .ok (.iconst 1, 1) := by decide +kernel
theorem dX1_inverse_1 : decode cX1_inverse 1 = .ok (.istore_n 2, 1) := by decide +kernel
theorem dX1_inverse_2 : decode cX1_inverse 2 = .ok (.iload_n 2, 1) := by decide +kernel
theorem dX1_inverse_3 : decode cX1_inverse 3 = .ok (.iload_n 1, 1) := by decide +kernel
theorem dX1_inverse_4 : decode cX1_inverse 4 = .ok (.if_icmp .ge 20, 3) := by decide +kernel
theorem dX1_inverse_7 : decode cX1_inverse 7 = .ok (.iload_n 2, 1) := by decide +kernel
theorem dX1_inverse_8 : decode cX1_inverse 8 = .ok (.iload_n 0, 1) := by decide +kernel
theorem dX1_inverse_9 : decode cX1_inverse 9 = .ok (.imul, 1) := by decide +kernel
theorem dX1_inverse_10 : decode cX1_inverse 10 = .ok (.iload_n 1, 1) := by decide +kernel
theorem dX1_inverse_11 : decode cX1_inverse 11 = .ok (.irem, 1) := by decide +kernel
theorem dX1_inverse_12 : decode cX1_inverse 12 = .ok (.iconst 1, 1) := by decide +kernel
theorem dX1_inverse_13 : decode cX1_inverse 13 = .ok (.if_icmp .ne 5, 3) := by decide +kernel
theorem dX1_inverse_16 : decode cX1_inverse 16 = .ok (.iload_n 2, 1) := by decide +kernel
theorem dX1_inverse_17 : decode cX1_inverse 17 = .ok (.ireturn, 1) := by decide +kernel
theorem dX1_inverse_18 : decode cX1_inverse 18 = .ok (.iinc 2 1, 3) := by decide +kernel
theorem dX1_inverse_21 : decode cX1_inverse 21 = .ok (.goto (-19), 3) := by decide +kernel
theorem dX1_inverse_24 : decode cX1_inverse 24 = .ok (.iconst 0, 1) := by decide +kernel
theorem dX1_inverse_25 : decode cX1_inverse 25 = .ok (.ireturn, 1) := by decide +kernel
theorem dX1_clearBelow_0 : decode cX1_clearBelow 0 = .ok (.aload_n 0, 1) := by decide +kernel
theorem dX1_clearBelow_1 : decode cX1_clearBelow 1 = .ok (.getfield 17, 3) := by decide +kernel
theorem dX1_clearBelow_4 : decode cX1_clearBelow 4 = .ok (.iload_n 2, 1) := by decide +kernel
theorem dX1_clearBelow_5 : decode cX1_clearBelow 5 = .ok (.aaload, 1) := by decide +kernel
theorem dX1_clearBelow_6 : decode cX1_clearBelow 6 = .ok (.astore 5, 2) := by decide +kernel
theorem dX1_clearBelow_8 : decode cX1_clearBelow 8 = .ok (.aload 5, 2) := by decide +kernel
theorem dX1_clearBelow_10 : decode cX1_clearBelow 10 = .ok (.iload_n 1, 1) := by decide +kernel
theorem dX1_clearBelow_11 : decode cX1_clearBelow 11 = .ok (.iaload, 1) := by decide +kernel
theorem dX1_clearBelow_12 : decode cX1_clearBelow 12 = .ok (.iload 4, 2) := by decide +kernel
theorem dX1_clearBelow_14 : decode cX1_clearBelow 14 = .ok (.invokestatic 69, 3) := by decide +kernel
theorem dX1_clearBelow_17 : decode cX1_clearBelow 17 = .ok (.istore 6, 2) := by decide +kernel
theorem dX1_clearBelow_19 : decode cX1_clearBelow 19 = .ok (.iload_n 2, 1) := by decide +kernel
theorem dX1_clearBelow_20 : decode cX1_clearBelow 20 = .ok (.iconst 1, 1) := by decide +kernel
theorem dX1_clearBelow_21 : decode cX1_clearBelow 21 = .ok (.iadd, 1) := by decide +kernel
theorem dX1_clearBelow_22 : decode cX1_clearBelow 22 = .ok (.istore 7, 2) := by decide +kernel
theorem dX1_clearBelow_24 : decode cX1_clearBelow 24 = .ok (.iload 7, 2) := by decide +kernel
theorem dX1_clearBelow_26 : decode cX1_clearBelow 26 = .ok (.iload_n 3, 1) := by decide +kernel
theorem dX1_clearBelow_27 : decode cX1_clearBelow 27 = .ok (.if_icmp .ge 83, 3) := by decide +kernel
theorem dX1_clearBelow_30 : decode cX1_clearBelow 30 = .ok (.aload_n 0, 1) := by decide +kernel
theorem dX1_clearBelow_31 : decode cX1_clearBelow 31 = .ok (.getfield 17, 3) := by decide +kernel
theorem dX1_clearBelow_34 : decode cX1_clearBelow 34 = .ok (.iload 7, 2) := by decide +kernel
theorem dX1_clearBelow_36 : decode cX1_clearBelow 36 = .ok (.aaload, 1) := by decide +kernel
theorem dX1_clearBelow_37 : decode cX1_clearBelow 37 = .ok (.astore 8, 2) := by decide +kernel
theorem dX1_clearBelow_39 : decode cX1_clearBelow 39 = .ok (.iload 4, 2) := by decide +kernel
theorem dX1_clearBelow_41 : decode cX1_clearBelow 41 = .ok (.aload 8, 2) := by decide +kernel
theorem dX1_clearBelow_43 : decode cX1_clearBelow 43 = .ok (.iload_n 1, 1) := by decide +kernel
theorem dX1_clearBelow_44 : decode cX1_clearBelow 44 = .ok (.iaload, 1) := by decide +kernel
theorem dX1_clearBelow_45 : decode cX1_clearBelow 45 = .ok (.iload 6, 2) := by decide +kernel
theorem dX1_clearBelow_47 : decode cX1_clearBelow 47 = .ok (.imul, 1) := by decide +kernel
theorem dX1_clearBelow_48 : decode cX1_clearBelow 48 = .ok (.iload 4, 2) := by decide +kernel
theorem dX1_clearBelow_50 : decode cX1_clearBelow 50 = .ok (.irem, 1) := by decide +kernel
theorem dX1_clearBelow_51 : decode cX1_clearBelow 51 = .ok (.isub, 1) := by decide +kernel
theorem dX1_clearBelow_52 : decode cX1_clearBelow 52 = .ok (.istore 9, 2) := by decide +kernel
theorem dX1_clearBelow_54 : decode cX1_clearBelow 54 = .ok (.iload 9, 2) := by decide +kernel
theorem dX1_clearBelow_56 : decode cX1_clearBelow 56 = .ok (.iload 4, 2) := by decide +kernel
theorem dX1_clearBelow_58 : decode cX1_clearBelow 58 = .ok (.if_icmp .ne 6, 3) := by decide +kernel
theorem dX1_clearBelow_61 : decode cX1_clearBelow 61 = .ok (.goto 43, 3) := by decide +kernel
theorem dX1_clearBelow_64 : decode cX1_clearBelow 64 = .ok (.iload_n 1, 1) := by decide +kernel
theorem dX1_clearBelow_65 : decode cX1_clearBelow 65 = .ok (.istore 10, 2) := by decide +kernel
theorem dX1_clearBelow_67 : decode cX1_clearBelow 67 = .ok (.iload 10, 2) := by decide +kernel
theorem dX1_clearBelow_69 : decode cX1_clearBelow 69 = .ok (.aload_n 0, 1) := by decide +kernel
theorem dX1_clearBelow_70 : decode cX1_clearBelow 70 = .ok (.getfield 42, 3) := by decide +kernel
theorem dX1_clearBelow_73 : decode cX1_clearBelow 73 = .ok (.if_icmp .ge 31, 3) := by decide +kernel
theorem dX1_clearBelow_76 : decode cX1_clearBelow 76 = .ok (.aload 8, 2) := by decide +kernel
theorem dX1_clearBelow_78 : decode cX1_clearBelow 78 = .ok (.iload 10, 2) := by decide +kernel
theorem dX1_clearBelow_80 : decode cX1_clearBelow 80 = .ok (.aload 8, 2) := by decide +kernel
theorem dX1_clearBelow_82 : decode cX1_clearBelow 82 = .ok (.iload 10, 2) := by decide +kernel
theorem dX1_clearBelow_84 : decode cX1_clearBelow 84 = .ok (.iaload, 1) := by decide +kernel
theorem dX1_clearBelow_85 : decode cX1_clearBelow 85 = .ok (.iload 9, 2) := by decide +kernel
theorem dX1_clearBelow_87 : decode cX1_clearBelow 87 = .ok (.aload 5, 2) := by decide +kernel
theorem dX1_clearBelow_89 : decode cX1_clearBelow 89 = .ok (.iload 10, 2) := by decide +kernel
theorem dX1_clearBelow_91 : decode cX1_clearBelow 91 = .ok (.iaload, 1) := by decide +kernel
theorem dX1_clearBelow_92 : decode cX1_clearBelow 92 = .ok (.imul, 1) := by decide +kernel
theorem dX1_clearBelow_93 : decode cX1_clearBelow 93 = .ok (.iadd, 1) := by decide +kernel
theorem dX1_clearBelow_94 : decode cX1_clearBelow 94 = .ok (.iload 4, 2) := by decide +kernel
theorem dX1_clearBelow_96 : decode cX1_clearBelow 96 = .ok (.irem, 1) := by decide +kernel
theorem dX1_clearBelow_97 : decode cX1_clearBelow 97 = .ok (.iastore, 1) := by decide +kernel
theorem dX1_clearBelow_98 : decode cX1_clearBelow 98 = .ok (.iinc 10 1, 3) := by decide +kernel
theorem dX1_clearBelow_101 : decode cX1_clearBelow 101 = .ok (.goto (-34), 3) := by decide +kernel
theorem dX1_clearBelow_104 : decode cX1_clearBelow 104 = .ok (.iinc 7 1, 3) := by decide +kernel
theorem dX1_clearBelow_107 : decode cX1_clearBelow 107 = .ok (.goto (-83), 3) := by decide +kernel
theorem dX1_clearBelow_110 : decode cX1_clearBelow 110 = .ok (.return_, 1) := by decide +kernel
theorem dX2_init_0 : decode cX2_init 0 = .ok (.aload_n 0, 1) := by decide +kernel
theorem dX2_init_1 : decode cX2_init 1 = .ok (.invokespecial 3, 3) := by decide +kernel
theorem dX2_init_4 : decode cX2_init 4 = .ok (.aload_n 0, 1) := by decide +kernel
theorem dX2_init_5 : decode cX2_init 5 = .ok (.sipush 281, 3) := by decide +kernel
theorem dX2_init_8 : decode cX2_init 8 = .ok (.newarray .long, 2) := by decide +kernel
theorem dX2_init_10 : decode cX2_init 10 = .ok (.putfield 9, 3) := by decide +kernel
theorem dX2_init_13 : decode cX2_init 13 = .ok (.aload_n 0, 1) := by decide +kernel
theorem dX2_init_14 : decode cX2_init 14 = .ok (.sipush 281, 3) := by decide +kernel
theorem dX2_init_17 : decode cX2_init 17 = .ok (.newarray .long, 2) := by decide +kernel
theorem dX2_init_19 : decode cX2_init 19 = .ok (.putfield 13, 3) := by decide +kernel
theorem dX2_init_22 : decode cX2_init 22 = .ok (.return_, 1) := by decide +kernel
theorem dX2_numberAt_0 : decode cX2_numberAt 0 = .ok (.iload_n 1, 1) := by decide +kernel
theorem dX2_numberAt_1 : decode cX2_numberAt 1 = .ok (.sipush (-140), 3) := by decide +kernel
theorem dX2_numberAt_4 : decode cX2_numberAt 4 = .ok (.if_icmp .lt 23, 3) := by decide +kernel
theorem dX2_numberAt_7 : decode cX2_numberAt 7 = .ok (.iload_n 1, 1) := by decide +kernel
theorem dX2_numberAt_8 : decode cX2_numberAt 8 = .ok (.sipush 140, 3) := by decide +kernel
theorem dX2_numberAt_11 : decode cX2_numberAt 11 = .ok (.if_icmp .gt 16, 3) := by decide +kernel
theorem dX2_numberAt_14 : decode cX2_numberAt 14 = .ok (.aload_n 0, 1) := by decide +kernel
theorem dX2_numberAt_15 : decode cX2_numberAt 15 = .ok (.getfield 9, 3) := by decide +kernel
theorem dX2_numberAt_18 : decode cX2_numberAt 18 = .ok (.iload_n 1, 1) := by decide +kernel
theorem dX2_numberAt_19 : decode cX2_numberAt 19 = .ok (.sipush 140, 3) := by decide +kernel
theorem dX2_numberAt_22 : decode cX2_numberAt 22 = .ok (.iadd, 1) := by decide +kernel
theorem dX2_numberAt_23 : decode cX2_numberAt 23 = .ok (.laload, 1) := by decide +kernel
theorem dX2_numberAt_24 : decode cX2_numberAt 24 = .ok (.goto 4, 3) := by decide +kernel
theorem dX2_numberAt_27 : decode cX2_numberAt 27 = .ok (.lconst 0, 1) := by decide +kernel
theorem dX2_numberAt_28 : decode cX2_numberAt 28 = .ok (.lreturn, 1) := by decide +kernel
theorem dX2_empty_0 : decode cX2_empty 0 = .ok (.aload_n 0, 1) := by decide +kernel
theorem dX2_empty_1 : decode cX2_empty 1 = .ok (.getfield 9, 3) := by decide +kernel
theorem dX2_empty_4 : decode cX2_empty 4 = .ok (.lconst 0, 1) := by decide +kernel
theorem dX2_empty_5 : decode cX2_empty 5 = .ok (.invokestatic 16, 3) := by decide +kernel
theorem dX2_empty_8 : decode cX2_empty 8 = .ok (.aload_n 0, 1) := by decide +kernel
theorem dX2_empty_9 : decode cX2_empty 9 = .ok (.iconst 1, 1) := by decide +kernel
theorem dX2_empty_10 : decode cX2_empty 10 = .ok (.putfield 22, 3) := by decide +kernel
theorem dX2_empty_13 : decode cX2_empty 13 = .ok (.return_, 1) := by decide +kernel
theorem dX2_add_0 : decode cX2_add 0 = .ok (.iload_n 1, 1) := by decide +kernel
theorem dX2_add_1 : decode cX2_add 1 = .ok (.sipush (-140), 3) := by decide +kernel
theorem dX2_add_4 : decode cX2_add 4 = .ok (.if_icmp .lt 24, 3) := by decide +kernel
theorem dX2_add_7 : decode cX2_add 7 = .ok (.iload_n 1, 1) := by decide +kernel
theorem dX2_add_8 : decode cX2_add 8 = .ok (.sipush 140, 3) := by decide +kernel
theorem dX2_add_11 : decode cX2_add 11 = .ok (.if_icmp .gt 17, 3) := by decide +kernel
theorem dX2_add_14 : decode cX2_add 14 = .ok (.aload_n 0, 1) := by decide +kernel
theorem dX2_add_15 : decode cX2_add 15 = .ok (.getfield 9, 3) := by decide +kernel
theorem dX2_add_18 : decode cX2_add 18 = .ok (.iload_n 1, 1) := by decide +kernel
theorem dX2_add_19 : decode cX2_add 19 = .ok (.sipush 140, 3) := by decide +kernel
theorem dX2_add_22 : decode cX2_add 22 = .ok (.iadd, 1) := by decide +kernel
theorem dX2_add_23 : decode cX2_add 23 = .ok (.dup2, 1) := by decide +kernel
theorem dX2_add_24 : decode cX2_add 24 = .ok (.laload, 1) := by decide +kernel
theorem dX2_add_25 : decode cX2_add 25 = .ok (.lload_n 2, 1) := by decide +kernel
theorem dX2_add_26 : decode cX2_add 26 = .ok (.ladd, 1) := by decide +kernel
theorem dX2_add_27 : decode cX2_add 27 = .ok (.lastore, 1) := by decide +kernel
theorem dX2_add_28 : decode cX2_add 28 = .ok (.return_, 1) := by decide +kernel
theorem dX2_swapRows_0 : decode cX2_swapRows 0 = .ok (.aload_n 0, 1) := by decide +kernel
theorem dX2_swapRows_1 : decode cX2_swapRows 1 = .ok (.getfield 9, 3) := by decide +kernel
theorem dX2_swapRows_4 : decode cX2_swapRows 4 = .ok (.astore_n 1, 1) := by decide +kernel
theorem dX2_swapRows_5 : decode cX2_swapRows 5 = .ok (.aload_n 0, 1) := by decide +kernel
theorem dX2_swapRows_6 : decode cX2_swapRows 6 = .ok (.aload_n 0, 1) := by decide +kernel
theorem dX2_swapRows_7 : decode cX2_swapRows 7 = .ok (.getfield 13, 3) := by decide +kernel
theorem dX2_swapRows_10 : decode cX2_swapRows 10 = .ok (.putfield 9, 3) := by decide +kernel
theorem dX2_swapRows_13 : decode cX2_swapRows 13 = .ok (.aload_n 0, 1) := by decide +kernel
theorem dX2_swapRows_14 : decode cX2_swapRows 14 = .ok (.aload_n 1, 1) := by decide +kernel
theorem dX2_swapRows_15 : decode cX2_swapRows 15 = .ok (.putfield 13, 3) := by decide +kernel
theorem dX2_swapRows_18 : decode cX2_swapRows 18 = .ok (.return_, 1) := by decide +kernel
theorem dX2_multiplyByCircle_0 : decode cX2_multiplyByCircle 0 = .ok (.sipush (-140), 3) := by decide +kernel
theorem dX2_multiplyByCircle_3 : decode cX2_multiplyByCircle 3 = .ok (.istore_n 1, 1) := by decide +kernel
theorem dX2_multiplyByCircle_4 : decode cX2_multiplyByCircle 4 = .ok (.iload_n 1, 1) := by decide +kernel
theorem dX2_multiplyByCircle_5 : decode cX2_multiplyByCircle 5 = .ok (.sipush 140, 3) := by decide +kernel
theorem dX2_multiplyByCircle_8 : decode cX2_multiplyByCircle 8 = .ok (.if_icmp .gt 35, 3) := by decide +kernel
theorem dX2_multiplyByCircle_11 : decode cX2_multiplyByCircle 11 = .ok (.aload_n 0, 1) := by decide +kernel
theorem dX2_multiplyByCircle_12 : decode cX2_multiplyByCircle 12 = .ok (.getfield 13, 3) := by decide +kernel
theorem dX2_multiplyByCircle_15 : decode cX2_multiplyByCircle 15 = .ok (.iload_n 1, 1) := by decide +kernel
theorem dX2_multiplyByCircle_16 : decode cX2_multiplyByCircle 16 = .ok (.sipush 140, 3) := by decide +kernel
theorem dX2_multiplyByCircle_19 : decode cX2_multiplyByCircle 19 = .ok (.iadd, 1) := by decide +kernel
theorem dX2_multiplyByCircle_20 : decode cX2_multiplyByCircle 20 = .ok (.aload_n 0, 1) := by decide +kernel
theorem dX2_multiplyByCircle_21 : decode cX2_multiplyByCircle 21 = .ok (.iload_n 1, 1) := by decide +kernel
theorem dX2_multiplyByCircle_22 : decode cX2_multiplyByCircle 22 = .ok (.iconst 2, 1) := by decide +kernel
theorem dX2_multiplyByCircle_23 : decode cX2_multiplyByCircle 23 = .ok (.isub, 1) := by decide +kernel
theorem dX2_multiplyByCircle_24 : decode cX2_multiplyByCircle 24 = .ok (.invokevirtual 26, 3) := by decide +kernel
theorem dX2_multiplyByCircle_27 : decode cX2_multiplyByCircle 27 = .ok (.lneg, 1) := by decide +kernel
theorem dX2_multiplyByCircle_28 : decode cX2_multiplyByCircle 28 = .ok (.aload_n 0, 1) := by decide +kernel
theorem dX2_multiplyByCircle_29 : decode cX2_multiplyByCircle 29 = .ok (.iload_n 1, 1) := by decide +kernel
theorem dX2_multiplyByCircle_30 : decode cX2_multiplyByCircle 30 = .ok (.iconst 2, 1) := by decide +kernel
theorem dX2_multiplyByCircle_31 : decode cX2_multiplyByCircle 31 = .ok (.iadd, 1) := by decide +kernel
theorem dX2_multiplyByCircle_32 : decode cX2_multiplyByCircle 32 = .ok (.invokevirtual 26, 3) := by decide +kernel
theorem dX2_multiplyByCircle_35 : decode cX2_multiplyByCircle 35 = .ok (.lsub, 1) := by decide +kernel
theorem dX2_multiplyByCircle_36 : decode cX2_multiplyByCircle 36 = .ok (.lastore, 1) := by decide +kernel
theorem dX2_multiplyByCircle_37 : decode cX2_multiplyByCircle 37 = .ok (.iinc 1 1, 3) := by decide +kernel
theorem dX2_multiplyByCircle_40 : decode cX2_multiplyByCircle 40 = .ok (.goto (-36), 3) := by decide +kernel
theorem dX2_multiplyByCircle_43 : decode cX2_multiplyByCircle 43 = .ok (.aload_n 0, 1) := by decide +kernel
theorem dX2_multiplyByCircle_44 : decode cX2_multiplyByCircle 44 = .ok (.invokevirtual 30, 3) := by decide +kernel
theorem dX2_multiplyByCircle_47 : decode cX2_multiplyByCircle 47 = .ok (.return_, 1) := by decide +kernel
theorem dX2_levelOut_0 : decode cX2_levelOut 0 = .ok (.iload_n 1, 1) := by decide +kernel
theorem dX2_levelOut_1 : decode cX2_levelOut 1 = .ok (.iconst 1, 1) := by decide +kernel
theorem dX2_levelOut_2 : decode cX2_levelOut 2 = .ok (.iand, 1) := by decide +kernel
theorem dX2_levelOut_3 : decode cX2_levelOut 3 = .ok (.iconst 1, 1) := by decide +kernel
theorem dX2_levelOut_4 : decode cX2_levelOut 4 = .ok (.if_icmp .ne 7, 3) := by decide +kernel
theorem dX2_levelOut_7 : decode cX2_levelOut 7 = .ok (.iconst (-1), 1) := by decide +kernel
theorem dX2_levelOut_8 : decode cX2_levelOut 8 = .ok (.goto 4, 3) := by decide +kernel
theorem dX2_levelOut_11 : decode cX2_levelOut 11 = .ok (.iconst 1, 1) := by decide +kernel
theorem dX2_levelOut_12 : decode cX2_levelOut 12 = .ok (.istore_n 2, 1) := by decide +kernel
theorem dX2_levelOut_13 : decode cX2_levelOut 13 = .ok (.sipush (-140), 3) := by decide +kernel
theorem dX2_levelOut_16 : decode cX2_levelOut 16 = .ok (.istore_n 3, 1) := by decide +kernel
theorem dX2_levelOut_17 : decode cX2_levelOut 17 = .ok (.iload_n 3, 1) := by decide +kernel
theorem dX2_levelOut_18 : decode cX2_levelOut 18 = .ok (.sipush 140, 3) := by decide +kernel
theorem dX2_levelOut_21 : decode cX2_levelOut 21 = .ok (.if_icmp .gt 31, 3) := by decide +kernel
theorem dX2_levelOut_24 : decode cX2_levelOut 24 = .ok (.aload_n 0, 1) := by decide +kernel
theorem dX2_levelOut_25 : decode cX2_levelOut 25 = .ok (.getfield 13, 3) := by decide +kernel
theorem dX2_levelOut_28 : decode cX2_levelOut 28 = .ok (.iload_n 3, 1) := by decide +kernel
theorem dX2_levelOut_29 : decode cX2_levelOut 29 = .ok (.sipush 140, 3) := by decide +kernel
theorem dX2_levelOut_32 : decode cX2_levelOut 32 = .ok (.iadd, 1) := by decide +kernel
theorem dX2_levelOut_33 : decode cX2_levelOut 33 = .ok (.iload_n 2, 1) := by decide +kernel
theorem dX2_levelOut_34 : decode cX2_levelOut 34 = .ok (.i2l, 1) := by decide +kernel
theorem dX2_levelOut_35 : decode cX2_levelOut 35 = .ok (.aload_n 0, 1) := by decide +kernel
theorem dX2_levelOut_36 : decode cX2_levelOut 36 = .ok (.iload_n 3, 1) := by decide +kernel
theorem dX2_levelOut_37 : decode cX2_levelOut 37 = .ok (.iconst 3, 1) := by decide +kernel
theorem dX2_levelOut_38 : decode cX2_levelOut 38 = .ok (.iload_n 1, 1) := by decide +kernel
theorem dX2_levelOut_39 : decode cX2_levelOut 39 = .ok (.imul, 1) := by decide +kernel
theorem dX2_levelOut_40 : decode cX2_levelOut 40 = .ok (.iadd, 1) := by decide +kernel
theorem dX2_levelOut_41 : decode cX2_levelOut 41 = .ok (.invokevirtual 26, 3) := by decide +kernel
theorem dX2_levelOut_44 : decode cX2_levelOut 44 = .ok (.lmul, 1) := by decide +kernel
theorem dX2_levelOut_45 : decode cX2_levelOut 45 = .ok (.lastore, 1) := by decide +kernel
theorem dX2_levelOut_46 : decode cX2_levelOut 46 = .ok (.iinc 3 1, 3) := by decide +kernel
theorem dX2_levelOut_49 : decode cX2_levelOut 49 = .ok (.goto (-32), 3) := by decide +kernel
theorem dX2_levelOut_52 : decode cX2_levelOut 52 = .ok (.aload_n 0, 1) := by decide +kernel
theorem dX2_levelOut_53 : decode cX2_levelOut 53 = .ok (.invokevirtual 30, 3) := by decide +kernel
theorem dX2_levelOut_56 : decode cX2_levelOut 56 = .ok (.return_, 1) := by decide +kernel
theorem dX2_countNumbers_0 : decode cX2_countNumbers 0 = .ok (.iconst 0, 1) := by decide +kernel
theorem dX2_countNumbers_1 : decode cX2_countNumbers 1 = .ok (.istore_n 1, 1) := by decide +kernel
theorem dX2_countNumbers_2 : decode cX2_countNumbers 2 = .ok (.iconst 0, 1) := by decide +kernel
theorem dX2_countNumbers_3 : decode cX2_countNumbers 3 = .ok (.istore_n 2, 1) := by decide +kernel
theorem dX2_countNumbers_4 : decode cX2_countNumbers 4 = .ok (.iload_n 2, 1) := by decide +kernel
theorem dX2_countNumbers_5 : decode cX2_countNumbers 5 = .ok (.sipush 281, 3) := by decide +kernel
theorem dX2_countNumbers_8 : decode cX2_countNumbers 8 = .ok (.if_icmp .ge 23, 3) := by decide +kernel
theorem dX2_countNumbers_11 : decode cX2_countNumbers 11 = .ok (.aload_n 0, 1) := by decide +kernel
theorem dX2_countNumbers_12 : decode cX2_countNumbers 12 = .ok (.getfield 9, 3) := by decide +kernel
theorem dX2_countNumbers_15 : decode cX2_countNumbers 15 = .ok (.iload_n 2, 1) := by decide +kernel
theorem dX2_countNumbers_16 : decode cX2_countNumbers 16 = .ok (.laload, 1) := by decide +kernel
theorem dX2_countNumbers_17 : decode cX2_countNumbers 17 = .ok (.lconst 0, 1) := by decide +kernel
theorem dX2_countNumbers_18 : decode cX2_countNumbers 18 = .ok (.lcmp, 1) := by decide +kernel
theorem dX2_countNumbers_19 : decode cX2_countNumbers 19 = .ok (.ifCond .eq 6, 3) := by decide +kernel
theorem dX2_countNumbers_22 : decode cX2_countNumbers 22 = .ok (.iinc 1 1, 3) := by decide +kernel
theorem dX2_countNumbers_25 : decode cX2_countNumbers 25 = .ok (.iinc 2 1, 3) := by decide +kernel
theorem dX2_countNumbers_28 : decode cX2_countNumbers 28 = .ok (.goto (-24), 3) := by decide +kernel
theorem dX2_countNumbers_31 : decode cX2_countNumbers 31 = .ok (.iload_n 1, 1) := by decide +kernel
theorem dX2_countNumbers_32 : decode cX2_countNumbers 32 = .ok (.ireturn, 1) := by decide +kernel
theorem dX2_lowest_0 : decode cX2_lowest 0 = .ok (.iconst 0, 1) := by decide +kernel
theorem dX2_lowest_1 : decode cX2_lowest 1 = .ok (.istore_n 1, 1) := by decide +kernel
theorem dX2_lowest_2 : decode cX2_lowest 2 = .ok (.iload_n 1, 1) := by decide +kernel
theorem dX2_lowest_3 : decode cX2_lowest 3 = .ok (.sipush 281, 3) := by decide +kernel
theorem dX2_lowest_6 : decode cX2_lowest 6 = .ok (.if_icmp .ge 26, 3) := by decide +kernel
theorem dX2_lowest_9 : decode cX2_lowest 9 = .ok (.aload_n 0, 1) := by decide +kernel
theorem dX2_lowest_10 : decode cX2_lowest 10 = .ok (.getfield 9, 3) := by decide +kernel
theorem dX2_lowest_13 : decode cX2_lowest 13 = .ok (.iload_n 1, 1) := by decide +kernel
theorem dX2_lowest_14 : decode cX2_lowest 14 = .ok (.laload, 1) := by decide +kernel
theorem dX2_lowest_15 : decode cX2_lowest 15 = .ok (.lconst 0, 1) := by decide +kernel
theorem dX2_lowest_16 : decode cX2_lowest 16 = .ok (.lcmp, 1) := by decide +kernel
theorem dX2_lowest_17 : decode cX2_lowest 17 = .ok (.ifCond .eq 9, 3) := by decide +kernel
theorem dX2_lowest_20 : decode cX2_lowest 20 = .ok (.iload_n 1, 1) := by decide +kernel
theorem dX2_lowest_21 : decode cX2_lowest 21 = .ok (.sipush 140, 3) := by decide +kernel
theorem dX2_lowest_24 : decode cX2_lowest 24 = .ok (.isub, 1) := by decide +kernel
theorem dX2_lowest_25 : decode cX2_lowest 25 = .ok (.ireturn, 1) := by decide +kernel
theorem dX2_lowest_26 : decode cX2_lowest 26 = .ok (.iinc 1 1, 3) := by decide +kernel
theorem dX2_lowest_29 : decode cX2_lowest 29 = .ok (.goto (-27), 3) := by decide +kernel
theorem dX2_lowest_32 : decode cX2_lowest 32 = .ok (.iconst 0, 1) := by decide +kernel
theorem dX2_lowest_33 : decode cX2_lowest 33 = .ok (.ireturn, 1) := by decide +kernel
theorem dX2_highest_0 : decode cX2_highest 0 = .ok (.sipush 280, 3) := by decide +kernel
theorem dX2_highest_3 : decode cX2_highest 3 = .ok (.istore_n 1, 1) := by decide +kernel
theorem dX2_highest_4 : decode cX2_highest 4 = .ok (.iload_n 1, 1) := by decide +kernel
theorem dX2_highest_5 : decode cX2_highest 5 = .ok (.ifCond .lt 26, 3) := by decide +kernel
theorem dX2_highest_8 : decode cX2_highest 8 = .ok (.aload_n 0, 1) := by decide +kernel
theorem dX2_highest_9 : decode cX2_highest 9 = .ok (.getfield 9, 3) := by decide +kernel
theorem dX2_highest_12 : decode cX2_highest 12 = .ok (.iload_n 1, 1) := by decide +kernel
theorem dX2_highest_13 : decode cX2_highest 13 = .ok (.laload, 1) := by decide +kernel
theorem dX2_highest_14 : decode cX2_highest 14 = .ok (.lconst 0, 1) := by decide +kernel
theorem dX2_highest_15 : decode cX2_highest 15 = .ok (.lcmp, 1) := by decide +kernel
theorem dX2_highest_16 : decode cX2_highest 16 = .ok (.ifCond .eq 9, 3) := by decide +kernel
theorem dX2_highest_19 : decode cX2_highest 19 = .ok (.iload_n 1, 1) := by decide +kernel
theorem dX2_highest_20 : decode cX2_highest 20 = .ok (.sipush 140, 3) := by decide +kernel
theorem dX2_highest_23 : decode cX2_highest 23 = .ok (.isub, 1) := by decide +kernel
theorem dX2_highest_24 : decode cX2_highest 24 = .ok (.ireturn, 1) := by decide +kernel
theorem dX2_highest_25 : decode cX2_highest 25 = .ok (.iinc 1 (-1), 3) := by decide +kernel
theorem dX2_highest_28 : decode cX2_highest 28 = .ok (.goto (-24), 3) := by decide +kernel
theorem dX2_highest_31 : decode cX2_highest 31 = .ok (.iconst 0, 1) := by decide +kernel
theorem dX2_highest_32 : decode cX2_highest 32 = .ok (.ireturn, 1) := by decide +kernel
theorem dX2_alternatingSize_0 : decode cX2_alternatingSize 0 = .ok (.lconst 0, 1) := by decide +kernel
theorem dX2_alternatingSize_1 : decode cX2_alternatingSize 1 = .ok (.lstore_n 1, 1) := by decide +kernel
theorem dX2_alternatingSize_2 : decode cX2_alternatingSize 2 = .ok (.iconst 1, 1) := by decide +kernel
theorem dX2_alternatingSize_3 : decode cX2_alternatingSize 3 = .ok (.istore_n 3, 1) := by decide +kernel
theorem dX2_alternatingSize_4 : decode cX2_alternatingSize 4 = .ok (.aload_n 0, 1) := by decide +kernel
theorem dX2_alternatingSize_5 : decode cX2_alternatingSize 5 = .ok (.invokevirtual 33, 3) := by decide +kernel
theorem dX2_alternatingSize_8 : decode cX2_alternatingSize 8 = .ok (.istore 4, 2) := by decide +kernel
theorem dX2_alternatingSize_10 : decode cX2_alternatingSize 10 = .ok (.iload 4, 2) := by decide +kernel
theorem dX2_alternatingSize_12 : decode cX2_alternatingSize 12 = .ok (.sipush 140, 3) := by decide +kernel
theorem dX2_alternatingSize_15 : decode cX2_alternatingSize 15 = .ok (.if_icmp .gt 24, 3) := by decide +kernel
theorem dX2_alternatingSize_18 : decode cX2_alternatingSize 18 = .ok (.lload_n 1, 1) := by decide +kernel
theorem dX2_alternatingSize_19 : decode cX2_alternatingSize 19 = .ok (.iload_n 3, 1) := by decide +kernel
theorem dX2_alternatingSize_20 : decode cX2_alternatingSize 20 = .ok (.i2l, 1) := by decide +kernel
theorem dX2_alternatingSize_21 : decode cX2_alternatingSize 21 = .ok (.aload_n 0, 1) := by decide +kernel
theorem dX2_alternatingSize_22 : decode cX2_alternatingSize 22 = .ok (.iload 4, 2) := by decide +kernel
theorem dX2_alternatingSize_24 : decode cX2_alternatingSize 24 = .ok (.invokevirtual 26, 3) := by decide +kernel
theorem dX2_alternatingSize_27 : decode cX2_alternatingSize 27 = .ok (.lmul, 1) := by decide +kernel
theorem dX2_alternatingSize_28 : decode cX2_alternatingSize 28 = .ok (.ladd, 1) := by decide +kernel
theorem dX2_alternatingSize_29 : decode cX2_alternatingSize 29 = .ok (.lstore_n 1, 1) := by decide +kernel
theorem dX2_alternatingSize_30 : decode cX2_alternatingSize 30 = .ok (.iload_n 3, 1) := by decide +kernel
theorem dX2_alternatingSize_31 : decode cX2_alternatingSize 31 = .ok (.ineg, 1) := by decide +kernel
theorem dX2_alternatingSize_32 : decode cX2_alternatingSize 32 = .ok (.istore_n 3, 1) := by decide +kernel
theorem dX2_alternatingSize_33 : decode cX2_alternatingSize 33 = .ok (.iinc 4 4, 3) := by decide +kernel
theorem dX2_alternatingSize_36 : decode cX2_alternatingSize 36 = .ok (.goto (-26), 3) := by decide +kernel
theorem dX2_alternatingSize_39 : decode cX2_alternatingSize 39 = .ok (.lload_n 1, 1) := by decide +kernel
theorem dX2_alternatingSize_40 : decode cX2_alternatingSize 40 = .ok (.invokestatic 37, 3) := by decide +kernel
theorem dX2_alternatingSize_43 : decode cX2_alternatingSize 43 = .ok (.lreturn, 1) := by decide +kernel
theorem dX2_isAs_0 : decode cX2_isAs 0 = .ok (.iconst 0, 1) := by decide +kernel
theorem dX2_isAs_1 : decode cX2_isAs 1 = .ok (.istore_n 2, 1) := by decide +kernel
theorem dX2_isAs_2 : decode cX2_isAs 2 = .ok (.iload_n 2, 1) := by decide +kernel
theorem dX2_isAs_3 : decode cX2_isAs 3 = .ok (.sipush 281, 3) := by decide +kernel
theorem dX2_isAs_6 : decode cX2_isAs 6 = .ok (.if_icmp .ge 27, 3) := by decide +kernel
theorem dX2_isAs_9 : decode cX2_isAs 9 = .ok (.aload_n 0, 1) := by decide +kernel
theorem dX2_isAs_10 : decode cX2_isAs 10 = .ok (.getfield 9, 3) := by decide +kernel
theorem dX2_isAs_13 : decode cX2_isAs 13 = .ok (.iload_n 2, 1) := by decide +kernel
theorem dX2_isAs_14 : decode cX2_isAs 14 = .ok (.laload, 1) := by decide +kernel
theorem dX2_isAs_15 : decode cX2_isAs 15 = .ok (.aload_n 1, 1) := by decide +kernel
theorem dX2_isAs_16 : decode cX2_isAs 16 = .ok (.getfield 9, 3) := by decide +kernel
theorem dX2_isAs_19 : decode cX2_isAs 19 = .ok (.iload_n 2, 1) := by decide +kernel
theorem dX2_isAs_20 : decode cX2_isAs 20 = .ok (.laload, 1) := by decide +kernel
theorem dX2_isAs_21 : decode cX2_isAs 21 = .ok (.lcmp, 1) := by decide +kernel
theorem dX2_isAs_22 : decode cX2_isAs 22 = .ok (.ifCond .eq 5, 3) := by decide +kernel
theorem dX2_isAs_25 : decode cX2_isAs 25 = .ok (.iconst 0, 1) := by decide +kernel
theorem dX2_isAs_26 : decode cX2_isAs 26 = .ok (.ireturn, 1) := by decide +kernel
theorem dX2_isAs_27 : decode cX2_isAs 27 = .ok (.iinc 2 1, 3) := by decide +kernel
theorem dX2_isAs_30 : decode cX2_isAs 30 = .ok (.goto (-28), 3) := by decide +kernel
theorem dX2_isAs_33 : decode cX2_isAs 33 = .ok (.iconst 1, 1) := by decide +kernel
theorem dX2_isAs_34 : decode cX2_isAs 34 = .ok (.ireturn, 1) := by decide +kernel
theorem dX2_take_0 : decode cX2_take 0 = .ok (.aload_n 1, 1) := by decide +kernel
theorem dX2_take_1 : decode cX2_take 1 = .ok (.getfield 9, 3) := by decide +kernel
theorem dX2_take_4 : decode cX2_take 4 = .ok (.iconst 0, 1) := by decide +kernel
theorem dX2_take_5 : decode cX2_take 5 = .ok (.aload_n 0, 1) := by decide +kernel
theorem dX2_take_6 : decode cX2_take 6 = .ok (.getfield 9, 3) := by decide +kernel
theorem dX2_take_9 : decode cX2_take 9 = .ok (.iconst 0, 1) := by decide +kernel
theorem dX2_take_10 : decode cX2_take 10 = .ok (.sipush 281, 3) := by decide +kernel
theorem dX2_take_13 : decode cX2_take 13 = .ok (.invokestatic 43, 3) := by decide +kernel
theorem dX2_take_16 : decode cX2_take 16 = .ok (.aload_n 0, 1) := by decide +kernel
theorem dX2_take_17 : decode cX2_take 17 = .ok (.aload_n 1, 1) := by decide +kernel
theorem dX2_take_18 : decode cX2_take 18 = .ok (.getfield 22, 3) := by decide +kernel
theorem dX2_take_21 : decode cX2_take 21 = .ok (.putfield 22, 3) := by decide +kernel
theorem dX2_take_24 : decode cX2_take 24 = .ok (.return_, 1) := by decide +kernel
theorem dX3_init_0 : decode cX3_init 0 = .ok (.aload_n 0, 1) := by decide +kernel
theorem dX3_init_1 : decode cX3_init 1 = .ok (.invokespecial 3, 3) := by decide +kernel
theorem dX3_init_4 : decode cX3_init 4 = .ok (.aload_n 0, 1) := by decide +kernel
theorem dX3_init_5 : decode cX3_init 5 = .ok (.bipush 40, 2) := by decide +kernel
theorem dX3_init_7 : decode cX3_init 7 = .ok (.newarray .int, 2) := by decide +kernel
theorem dX3_init_9 : decode cX3_init 9 = .ok (.putfield 9, 3) := by decide +kernel
theorem dX3_init_12 : decode cX3_init 12 = .ok (.aload_n 0, 1) := by decide +kernel
theorem dX3_init_13 : decode cX3_init 13 = .ok (.bipush 40, 2) := by decide +kernel
theorem dX3_init_15 : decode cX3_init 15 = .ok (.newarray .int, 2) := by decide +kernel
theorem dX3_init_17 : decode cX3_init 17 = .ok (.putfield 15, 3) := by decide +kernel
theorem dX3_init_20 : decode cX3_init 20 = .ok (.aload_n 0, 1) := by decide +kernel
theorem dX3_init_21 : decode cX3_init 21 = .ok (.bipush 40, 2) := by decide +kernel
theorem dX3_init_23 : decode cX3_init 23 = .ok (.newarray .int, 2) := by decide +kernel
theorem dX3_init_25 : decode cX3_init 25 = .ok (.putfield 18, 3) := by decide +kernel
theorem dX3_init_28 : decode cX3_init 28 = .ok (.return_, 1) := by decide +kernel
theorem dX3_holds_0 : decode cX3_holds 0 = .ok (.aload_n 0, 1) := by decide +kernel
theorem dX3_holds_1 : decode cX3_holds 1 = .ok (.getfield 9, 3) := by decide +kernel
theorem dX3_holds_4 : decode cX3_holds 4 = .ok (.iconst (-1), 1) := by decide +kernel
theorem dX3_holds_5 : decode cX3_holds 5 = .ok (.invokestatic 21, 3) := by decide +kernel
theorem dX3_holds_8 : decode cX3_holds 8 = .ok (.aload_n 0, 1) := by decide +kernel
theorem dX3_holds_9 : decode cX3_holds 9 = .ok (.getfield 15, 3) := by decide +kernel
theorem dX3_holds_12 : decode cX3_holds 12 = .ok (.iconst 0, 1) := by decide +kernel
theorem dX3_holds_13 : decode cX3_holds 13 = .ok (.invokestatic 21, 3) := by decide +kernel
theorem dX3_holds_16 : decode cX3_holds 16 = .ok (.iconst 0, 1) := by decide +kernel
theorem dX3_holds_17 : decode cX3_holds 17 = .ok (.istore 4, 2) := by decide +kernel
theorem dX3_holds_19 : decode cX3_holds 19 = .ok (.iload 4, 2) := by decide +kernel
theorem dX3_holds_21 : decode cX3_holds 21 = .ok (.iload_n 3, 1) := by decide +kernel
theorem dX3_holds_22 : decode cX3_holds 22 = .ok (.if_icmp .ge 33, 3) := by decide +kernel
theorem dX3_holds_25 : decode cX3_holds 25 = .ok (.aload_n 0, 1) := by decide +kernel
theorem dX3_holds_26 : decode cX3_holds 26 = .ok (.getfield 9, 3) := by decide +kernel
theorem dX3_holds_29 : decode cX3_holds 29 = .ok (.iload 4, 2) := by decide +kernel
theorem dX3_holds_31 : decode cX3_holds 31 = .ok (.iaload, 1) := by decide +kernel
theorem dX3_holds_32 : decode cX3_holds 32 = .ok (.ifCond .ge 17, 3) := by decide +kernel
theorem dX3_holds_35 : decode cX3_holds 35 = .ok (.aload_n 0, 1) := by decide +kernel
theorem dX3_holds_36 : decode cX3_holds 36 = .ok (.aload_n 1, 1) := by decide +kernel
theorem dX3_holds_37 : decode cX3_holds 37 = .ok (.aload_n 2, 1) := by decide +kernel
theorem dX3_holds_38 : decode cX3_holds 38 = .ok (.iload_n 3, 1) := by decide +kernel
theorem dX3_holds_39 : decode cX3_holds 39 = .ok (.iload 4, 2) := by decide +kernel
theorem dX3_holds_41 : decode cX3_holds 41 = .ok (.invokevirtual 27, 3) := by decide +kernel
theorem dX3_holds_44 : decode cX3_holds 44 = .ok (.ifCond .ne 5, 3) := by decide +kernel
theorem dX3_holds_47 : decode cX3_holds 47 = .ok (.iconst 0, 1) := by decide +kernel
theorem dX3_holds_48 : decode cX3_holds 48 = .ok (.ireturn, 1) := by decide +kernel
theorem dX3_holds_49 : decode cX3_holds 49 = .ok (.iinc 4 1, 3) := by decide +kernel
theorem dX3_holds_52 : decode cX3_holds 52 = .ok (.goto (-33), 3) := by decide +kernel
theorem dX3_holds_55 : decode cX3_holds 55 = .ok (.iconst 1, 1) := by decide +kernel
theorem dX3_holds_56 : decode cX3_holds 56 = .ok (.ireturn, 1) := by decide +kernel
theorem dX3_findsPart_0 : decode cX3_findsPart 0 = .ok (.iconst 0, 1) := by decide +kernel
theorem dX3_findsPart_1 : decode cX3_findsPart 1 = .ok (.istore 5, 2) := by decide +kernel
theorem dX3_findsPart_3 : decode cX3_findsPart 3 = .ok (.iload 5, 2) := by decide +kernel
theorem dX3_findsPart_5 : decode cX3_findsPart 5 = .ok (.iconst 4, 1) := by decide +kernel
theorem dX3_findsPart_6 : decode cX3_findsPart 6 = .ok (.iload_n 3, 1) := by decide +kernel
theorem dX3_findsPart_7 : decode cX3_findsPart 7 = .ok (.imul, 1) := by decide +kernel
theorem dX3_findsPart_8 : decode cX3_findsPart 8 = .ok (.if_icmp .ge 49, 3) := by decide +kernel
theorem dX3_findsPart_11 : decode cX3_findsPart 11 = .ok (.aload_n 0, 1) := by decide +kernel
theorem dX3_findsPart_12 : decode cX3_findsPart 12 = .ok (.getfield 15, 3) := by decide +kernel
theorem dX3_findsPart_15 : decode cX3_findsPart 15 = .ok (.iload 5, 2) := by decide +kernel
theorem dX3_findsPart_17 : decode cX3_findsPart 17 = .ok (.iconst 2, 1) := by decide +kernel
theorem dX3_findsPart_18 : decode cX3_findsPart 18 = .ok (.ishr, 1) := by decide +kernel
theorem dX3_findsPart_19 : decode cX3_findsPart 19 = .ok (.iaload, 1) := by decide +kernel
theorem dX3_findsPart_20 : decode cX3_findsPart 20 = .ok (.ifCond .ne 31, 3) := by decide +kernel
theorem dX3_findsPart_23 : decode cX3_findsPart 23 = .ok (.aload_n 0, 1) := by decide +kernel
theorem dX3_findsPart_24 : decode cX3_findsPart 24 = .ok (.iconst 0, 1) := by decide +kernel
theorem dX3_findsPart_25 : decode cX3_findsPart 25 = .ok (.putfield 31, 3) := by decide +kernel
theorem dX3_findsPart_28 : decode cX3_findsPart 28 = .ok (.aload_n 0, 1) := by decide +kernel
theorem dX3_findsPart_29 : decode cX3_findsPart 29 = .ok (.iload 4, 2) := by decide +kernel
theorem dX3_findsPart_31 : decode cX3_findsPart 31 = .ok (.iload 5, 2) := by decide +kernel
theorem dX3_findsPart_33 : decode cX3_findsPart 33 = .ok (.invokevirtual 35, 3) := by decide +kernel
theorem dX3_findsPart_36 : decode cX3_findsPart 36 = .ok (.aload_n 0, 1) := by decide +kernel
theorem dX3_findsPart_37 : decode cX3_findsPart 37 = .ok (.aload_n 1, 1) := by decide +kernel
theorem dX3_findsPart_38 : decode cX3_findsPart 38 = .ok (.aload_n 2, 1) := by decide +kernel
theorem dX3_findsPart_39 : decode cX3_findsPart 39 = .ok (.invokevirtual 39, 3) := by decide +kernel
theorem dX3_findsPart_42 : decode cX3_findsPart 42 = .ok (.ifCond .eq 5, 3) := by decide +kernel
theorem dX3_findsPart_45 : decode cX3_findsPart 45 = .ok (.iconst 1, 1) := by decide +kernel
theorem dX3_findsPart_46 : decode cX3_findsPart 46 = .ok (.ireturn, 1) := by decide +kernel
theorem dX3_findsPart_47 : decode cX3_findsPart 47 = .ok (.aload_n 0, 1) := by decide +kernel
theorem dX3_findsPart_48 : decode cX3_findsPart 48 = .ok (.invokevirtual 43, 3) := by decide +kernel
theorem dX3_findsPart_51 : decode cX3_findsPart 51 = .ok (.iinc 5 2, 3) := by decide +kernel
theorem dX3_findsPart_54 : decode cX3_findsPart 54 = .ok (.goto (-51), 3) := by decide +kernel
theorem dX3_findsPart_57 : decode cX3_findsPart 57 = .ok (.iconst 0, 1) := by decide +kernel
theorem dX3_findsPart_58 : decode cX3_findsPart 58 = .ok (.ireturn, 1) := by decide +kernel
theorem dX3_assign_0 : decode cX3_assign 0 = .ok (.aload_n 0, 1) := by decide +kernel
theorem dX3_assign_1 : decode cX3_assign 1 = .ok (.getfield 9, 3) := by decide +kernel
theorem dX3_assign_4 : decode cX3_assign 4 = .ok (.iload_n 1, 1) := by decide +kernel
theorem dX3_assign_5 : decode cX3_assign 5 = .ok (.iload_n 2, 1) := by decide +kernel
theorem dX3_assign_6 : decode cX3_assign 6 = .ok (.iastore, 1) := by decide +kernel
theorem dX3_assign_7 : decode cX3_assign 7 = .ok (.aload_n 0, 1) := by decide +kernel
theorem dX3_assign_8 : decode cX3_assign 8 = .ok (.getfield 15, 3) := by decide +kernel
theorem dX3_assign_11 : decode cX3_assign 11 = .ok (.iload_n 2, 1) := by decide +kernel
theorem dX3_assign_12 : decode cX3_assign 12 = .ok (.iconst 2, 1) := by decide +kernel
theorem dX3_assign_13 : decode cX3_assign 13 = .ok (.ishr, 1) := by decide +kernel
theorem dX3_assign_14 : decode cX3_assign 14 = .ok (.iconst 1, 1) := by decide +kernel
theorem dX3_assign_15 : decode cX3_assign 15 = .ok (.iastore, 1) := by decide +kernel
theorem dX3_assign_16 : decode cX3_assign 16 = .ok (.aload_n 0, 1) := by decide +kernel
theorem dX3_assign_17 : decode cX3_assign 17 = .ok (.getfield 18, 3) := by decide +kernel
theorem dX3_assign_20 : decode cX3_assign 20 = .ok (.aload_n 0, 1) := by decide +kernel
theorem dX3_assign_21 : decode cX3_assign 21 = .ok (.getfield 31, 3) := by decide +kernel
theorem dX3_assign_24 : decode cX3_assign 24 = .ok (.iload_n 1, 1) := by decide +kernel
theorem dX3_assign_25 : decode cX3_assign 25 = .ok (.iastore, 1) := by decide +kernel
theorem dX3_assign_26 : decode cX3_assign 26 = .ok (.aload_n 0, 1) := by decide +kernel
theorem dX3_assign_27 : decode cX3_assign 27 = .ok (.dup, 1) := by decide +kernel
theorem dX3_assign_28 : decode cX3_assign 28 = .ok (.getfield 31, 3) := by decide +kernel
theorem dX3_assign_31 : decode cX3_assign 31 = .ok (.iconst 1, 1) := by decide +kernel
theorem dX3_assign_32 : decode cX3_assign 32 = .ok (.iadd, 1) := by decide +kernel
theorem dX3_assign_33 : decode cX3_assign 33 = .ok (.putfield 31, 3) := by decide +kernel
theorem dX3_assign_36 : decode cX3_assign 36 = .ok (.return_, 1) := by decide +kernel
theorem dX3_withdraw_0 : decode cX3_withdraw 0 = .ok (.iconst 0, 1) := by decide +kernel
theorem dX3_withdraw_1 : decode cX3_withdraw 1 = .ok (.istore_n 1, 1) := by decide +kernel
theorem dX3_withdraw_2 : decode cX3_withdraw 2 = .ok (.iload_n 1, 1) := by decide +kernel
theorem dX3_withdraw_3 : decode cX3_withdraw 3 = .ok (.aload_n 0, 1) := by decide +kernel
theorem dX3_withdraw_4 : decode cX3_withdraw 4 = .ok (.getfield 31, 3) := by decide +kernel
theorem dX3_withdraw_7 : decode cX3_withdraw 7 = .ok (.if_icmp .ge 37, 3) := by decide +kernel
theorem dX3_withdraw_10 : decode cX3_withdraw 10 = .ok (.aload_n 0, 1) := by decide +kernel
theorem dX3_withdraw_11 : decode cX3_withdraw 11 = .ok (.getfield 18, 3) := by decide +kernel
theorem dX3_withdraw_14 : decode cX3_withdraw 14 = .ok (.iload_n 1, 1) := by decide +kernel
theorem dX3_withdraw_15 : decode cX3_withdraw 15 = .ok (.iaload, 1) := by decide +kernel
theorem dX3_withdraw_16 : decode cX3_withdraw 16 = .ok (.istore_n 2, 1) := by decide +kernel
theorem dX3_withdraw_17 : decode cX3_withdraw 17 = .ok (.aload_n 0, 1) := by decide +kernel
theorem dX3_withdraw_18 : decode cX3_withdraw 18 = .ok (.getfield 15, 3) := by decide +kernel
theorem dX3_withdraw_21 : decode cX3_withdraw 21 = .ok (.aload_n 0, 1) := by decide +kernel
theorem dX3_withdraw_22 : decode cX3_withdraw 22 = .ok (.getfield 9, 3) := by decide +kernel
theorem dX3_withdraw_25 : decode cX3_withdraw 25 = .ok (.iload_n 2, 1) := by decide +kernel
theorem dX3_withdraw_26 : decode cX3_withdraw 26 = .ok (.iaload, 1) := by decide +kernel
theorem dX3_withdraw_27 : decode cX3_withdraw 27 = .ok (.iconst 2, 1) := by decide +kernel
theorem dX3_withdraw_28 : decode cX3_withdraw 28 = .ok (.ishr, 1) := by decide +kernel
theorem dX3_withdraw_29 : decode cX3_withdraw 29 = .ok (.iconst 0, 1) := by decide +kernel
theorem dX3_withdraw_30 : decode cX3_withdraw 30 = .ok (.iastore, 1) := by decide +kernel
theorem dX3_withdraw_31 : decode cX3_withdraw 31 = .ok (.aload_n 0, 1) := by decide +kernel
theorem dX3_withdraw_32 : decode cX3_withdraw 32 = .ok (.getfield 9, 3) := by decide +kernel
theorem dX3_withdraw_35 : decode cX3_withdraw 35 = .ok (.iload_n 2, 1) := by decide +kernel
theorem dX3_withdraw_36 : decode cX3_withdraw 36 = .ok (.iconst (-1), 1) := by decide +kernel
theorem dX3_withdraw_37 : decode cX3_withdraw 37 = .ok (.iastore, 1) := by decide +kernel
theorem dX3_withdraw_38 : decode cX3_withdraw 38 = .ok (.iinc 1 1, 3) := by decide +kernel
theorem dX3_withdraw_41 : decode cX3_withdraw 41 = .ok (.goto (-39), 3) := by decide +kernel
theorem dX3_withdraw_44 : decode cX3_withdraw 44 = .ok (.return_, 1) := by decide +kernel
theorem dX3_spreads_0 : decode cX3_spreads 0 = .ok (.iconst 0, 1) := by decide +kernel
theorem dX3_spreads_1 : decode cX3_spreads 1 = .ok (.istore_n 3, 1) := by decide +kernel
theorem dX3_spreads_2 : decode cX3_spreads 2 = .ok (.iload_n 3, 1) := by decide +kernel
theorem dX3_spreads_3 : decode cX3_spreads 3 = .ok (.aload_n 0, 1) := by decide +kernel
theorem dX3_spreads_4 : decode cX3_spreads 4 = .ok (.getfield 31, 3) := by decide +kernel
theorem dX3_spreads_7 : decode cX3_spreads 7 = .ok (.if_icmp .ge 141, 3) := by decide +kernel
theorem dX3_spreads_10 : decode cX3_spreads 10 = .ok (.iload_n 3, 1) := by decide +kernel
theorem dX3_spreads_11 : decode cX3_spreads 11 = .ok (.bipush 40, 2) := by decide +kernel
theorem dX3_spreads_13 : decode cX3_spreads 13 = .ok (.if_icmp .ge 135, 3) := by decide +kernel
theorem dX3_spreads_16 : decode cX3_spreads 16 = .ok (.aload_n 0, 1) := by decide +kernel
theorem dX3_spreads_17 : decode cX3_spreads 17 = .ok (.getfield 18, 3) := by decide +kernel
theorem dX3_spreads_20 : decode cX3_spreads 20 = .ok (.iload_n 3, 1) := by decide +kernel
theorem dX3_spreads_21 : decode cX3_spreads 21 = .ok (.iaload, 1) := by decide +kernel
theorem dX3_spreads_22 : decode cX3_spreads 22 = .ok (.istore 4, 2) := by decide +kernel
theorem dX3_spreads_24 : decode cX3_spreads 24 = .ok (.iconst 0, 1) := by decide +kernel
theorem dX3_spreads_25 : decode cX3_spreads 25 = .ok (.istore 5, 2) := by decide +kernel
theorem dX3_spreads_27 : decode cX3_spreads 27 = .ok (.iload 5, 2) := by decide +kernel
theorem dX3_spreads_29 : decode cX3_spreads 29 = .ok (.iconst 4, 1) := by decide +kernel
theorem dX3_spreads_30 : decode cX3_spreads 30 = .ok (.if_icmp .ge 112, 3) := by decide +kernel
theorem dX3_spreads_33 : decode cX3_spreads 33 = .ok (.aload_n 1, 1) := by decide +kernel
theorem dX3_spreads_34 : decode cX3_spreads 34 = .ok (.iconst 4, 1) := by decide +kernel
theorem dX3_spreads_35 : decode cX3_spreads 35 = .ok (.iload 4, 2) := by decide +kernel
theorem dX3_spreads_37 : decode cX3_spreads 37 = .ok (.imul, 1) := by decide +kernel
theorem dX3_spreads_38 : decode cX3_spreads 38 = .ok (.iload 5, 2) := by decide +kernel
theorem dX3_spreads_40 : decode cX3_spreads 40 = .ok (.iadd, 1) := by decide +kernel
theorem dX3_spreads_41 : decode cX3_spreads 41 = .ok (.iaload, 1) := by decide +kernel
theorem dX3_spreads_42 : decode cX3_spreads 42 = .ok (.istore 6, 2) := by decide +kernel
theorem dX3_spreads_44 : decode cX3_spreads 44 = .ok (.aload_n 2, 1) := by decide +kernel
theorem dX3_spreads_45 : decode cX3_spreads 45 = .ok (.aload_n 0, 1) := by decide +kernel
theorem dX3_spreads_46 : decode cX3_spreads 46 = .ok (.getfield 9, 3) := by decide +kernel
theorem dX3_spreads_49 : decode cX3_spreads 49 = .ok (.iload 4, 2) := by decide +kernel
theorem dX3_spreads_51 : decode cX3_spreads 51 = .ok (.iaload, 1) := by decide +kernel
theorem dX3_spreads_52 : decode cX3_spreads 52 = .ok (.iload 5, 2) := by decide +kernel
theorem dX3_spreads_54 : decode cX3_spreads 54 = .ok (.invokestatic 46, 3) := by decide +kernel
theorem dX3_spreads_57 : decode cX3_spreads 57 = .ok (.iaload, 1) := by decide +kernel
theorem dX3_spreads_58 : decode cX3_spreads 58 = .ok (.istore 7, 2) := by decide +kernel
theorem dX3_spreads_60 : decode cX3_spreads 60 = .ok (.iload 7, 2) := by decide +kernel
theorem dX3_spreads_62 : decode cX3_spreads 62 = .ok (.iconst 4, 1) := by decide +kernel
theorem dX3_spreads_63 : decode cX3_spreads 63 = .ok (.iload 6, 2) := by decide +kernel
theorem dX3_spreads_65 : decode cX3_spreads 65 = .ok (.iconst 3, 1) := by decide +kernel
theorem dX3_spreads_66 : decode cX3_spreads 66 = .ok (.iand, 1) := by decide +kernel
theorem dX3_spreads_67 : decode cX3_spreads 67 = .ok (.isub, 1) := by decide +kernel
theorem dX3_spreads_68 : decode cX3_spreads 68 = .ok (.invokestatic 46, 3) := by decide +kernel
theorem dX3_spreads_71 : decode cX3_spreads 71 = .ok (.istore 8, 2) := by decide +kernel
theorem dX3_spreads_73 : decode cX3_spreads 73 = .ok (.iload 6, 2) := by decide +kernel
theorem dX3_spreads_75 : decode cX3_spreads 75 = .ok (.iconst 2, 1) := by decide +kernel
theorem dX3_spreads_76 : decode cX3_spreads 76 = .ok (.ishr, 1) := by decide +kernel
theorem dX3_spreads_77 : decode cX3_spreads 77 = .ok (.istore 9, 2) := by decide +kernel
theorem dX3_spreads_79 : decode cX3_spreads 79 = .ok (.iload 8, 2) := by decide +kernel
theorem dX3_spreads_81 : decode cX3_spreads 81 = .ok (.iconst 1, 1) := by decide +kernel
theorem dX3_spreads_82 : decode cX3_spreads 82 = .ok (.iand, 1) := by decide +kernel
theorem dX3_spreads_83 : decode cX3_spreads 83 = .ok (.iconst 1, 1) := by decide +kernel
theorem dX3_spreads_84 : decode cX3_spreads 84 = .ok (.if_icmp .ne 5, 3) := by decide +kernel
theorem dX3_spreads_87 : decode cX3_spreads 87 = .ok (.iconst 0, 1) := by decide +kernel
theorem dX3_spreads_88 : decode cX3_spreads 88 = .ok (.ireturn, 1) := by decide +kernel
theorem dX3_spreads_89 : decode cX3_spreads 89 = .ok (.aload_n 0, 1) := by decide +kernel
theorem dX3_spreads_90 : decode cX3_spreads 90 = .ok (.getfield 9, 3) := by decide +kernel
theorem dX3_spreads_93 : decode cX3_spreads 93 = .ok (.iload 9, 2) := by decide +kernel
theorem dX3_spreads_95 : decode cX3_spreads 95 = .ok (.iaload, 1) := by decide +kernel
theorem dX3_spreads_96 : decode cX3_spreads 96 = .ok (.ifCond .ge 26, 3) := by decide +kernel
theorem dX3_spreads_99 : decode cX3_spreads 99 = .ok (.aload_n 0, 1) := by decide +kernel
theorem dX3_spreads_100 : decode cX3_spreads 100 = .ok (.getfield 15, 3) := by decide +kernel
theorem dX3_spreads_103 : decode cX3_spreads 103 = .ok (.iload 7, 2) := by decide +kernel
theorem dX3_spreads_105 : decode cX3_spreads 105 = .ok (.iconst 2, 1) := by decide +kernel
theorem dX3_spreads_106 : decode cX3_spreads 106 = .ok (.ishr, 1) := by decide +kernel
theorem dX3_spreads_107 : decode cX3_spreads 107 = .ok (.iaload, 1) := by decide +kernel
theorem dX3_spreads_108 : decode cX3_spreads 108 = .ok (.ifCond .ne 14, 3) := by decide +kernel
theorem dX3_spreads_111 : decode cX3_spreads 111 = .ok (.aload_n 0, 1) := by decide +kernel
theorem dX3_spreads_112 : decode cX3_spreads 112 = .ok (.iload 9, 2) := by decide +kernel
theorem dX3_spreads_114 : decode cX3_spreads 114 = .ok (.iload 8, 2) := by decide +kernel
theorem dX3_spreads_116 : decode cX3_spreads 116 = .ok (.invokevirtual 35, 3) := by decide +kernel
theorem dX3_spreads_119 : decode cX3_spreads 119 = .ok (.goto 17, 3) := by decide +kernel
theorem dX3_spreads_122 : decode cX3_spreads 122 = .ok (.aload_n 0, 1) := by decide +kernel
theorem dX3_spreads_123 : decode cX3_spreads 123 = .ok (.getfield 9, 3) := by decide +kernel
theorem dX3_spreads_126 : decode cX3_spreads 126 = .ok (.iload 9, 2) := by decide +kernel
theorem dX3_spreads_128 : decode cX3_spreads 128 = .ok (.iaload, 1) := by decide +kernel
theorem dX3_spreads_129 : decode cX3_spreads 129 = .ok (.iload 8, 2) := by decide +kernel
theorem dX3_spreads_131 : decode cX3_spreads 131 = .ok (.if_icmp .eq 5, 3) := by decide +kernel
theorem dX3_spreads_134 : decode cX3_spreads 134 = .ok (.iconst 0, 1) := by decide +kernel
theorem dX3_spreads_135 : decode cX3_spreads 135 = .ok (.ireturn, 1) := by decide +kernel
theorem dX3_spreads_136 : decode cX3_spreads 136 = .ok (.iinc 5 1, 3) := by decide +kernel
theorem dX3_spreads_139 : decode cX3_spreads 139 = .ok (.goto (-112), 3) := by decide +kernel
theorem dX3_spreads_142 : decode cX3_spreads 142 = .ok (.iinc 3 1, 3) := by decide +kernel
theorem dX3_spreads_145 : decode cX3_spreads 145 = .ok (.goto (-143), 3) := by decide +kernel
theorem dX3_spreads_148 : decode cX3_spreads 148 = .ok (.iconst 1, 1) := by decide +kernel
theorem dX3_spreads_149 : decode cX3_spreads 149 = .ok (.ireturn, 1) := by decide +kernel
theorem dX4_init_0 : decode cX4_init 0 = .ok (.aload_n 0, 1) := by decide +kernel
theorem dX4_init_1 : decode cX4_init 1 = .ok (.invokespecial 3, 3) := by decide +kernel
theorem dX4_init_4 : decode cX4_init 4 = .ok (.aload_n 0, 1) := by decide +kernel
theorem dX4_init_5 : decode cX4_init 5 = .ok (.sipush 160, 3) := by decide +kernel
theorem dX4_init_8 : decode cX4_init 8 = .ok (.newarray .int, 2) := by decide +kernel
theorem dX4_init_10 : decode cX4_init 10 = .ok (.putfield 9, 3) := by decide +kernel
theorem dX4_init_13 : decode cX4_init 13 = .ok (.aload_n 0, 1) := by decide +kernel
theorem dX4_init_14 : decode cX4_init 14 = .ok (.sipush 160, 3) := by decide +kernel
theorem dX4_init_17 : decode cX4_init 17 = .ok (.newarray .int, 2) := by decide +kernel
theorem dX4_init_19 : decode cX4_init 19 = .ok (.putfield 15, 3) := by decide +kernel
theorem dX4_init_22 : decode cX4_init 22 = .ok (.aload_n 0, 1) := by decide +kernel
theorem dX4_init_23 : decode cX4_init 23 = .ok (.sipush 160, 3) := by decide +kernel
theorem dX4_init_26 : decode cX4_init 26 = .ok (.newarray .int, 2) := by decide +kernel
theorem dX4_init_28 : decode cX4_init 28 = .ok (.putfield 18, 3) := by decide +kernel
theorem dX4_init_31 : decode cX4_init 31 = .ok (.aload_n 0, 1) := by decide +kernel
theorem dX4_init_32 : decode cX4_init 32 = .ok (.sipush 160, 3) := by decide +kernel
theorem dX4_init_35 : decode cX4_init 35 = .ok (.newarray .int, 2) := by decide +kernel
theorem dX4_init_37 : decode cX4_init 37 = .ok (.putfield 21, 3) := by decide +kernel
theorem dX4_init_40 : decode cX4_init 40 = .ok (.aload_n 0, 1) := by decide +kernel
theorem dX4_init_41 : decode cX4_init 41 = .ok (.sipush 160, 3) := by decide +kernel
theorem dX4_init_44 : decode cX4_init 44 = .ok (.newarray .int, 2) := by decide +kernel
theorem dX4_init_46 : decode cX4_init 46 = .ok (.putfield 24, 3) := by decide +kernel
theorem dX4_init_49 : decode cX4_init 49 = .ok (.aload_n 0, 1) := by decide +kernel
theorem dX4_init_50 : decode cX4_init 50 = .ok (.sipush 160, 3) := by decide +kernel
theorem dX4_init_53 : decode cX4_init 53 = .ok (.newarray .int, 2) := by decide +kernel
theorem dX4_init_55 : decode cX4_init 55 = .ok (.putfield 27, 3) := by decide +kernel
theorem dX4_init_58 : decode cX4_init 58 = .ok (.aload_n 0, 1) := by decide +kernel
theorem dX4_init_59 : decode cX4_init 59 = .ok (.bipush 40, 2) := by decide +kernel
theorem dX4_init_61 : decode cX4_init 61 = .ok (.newarray .int, 2) := by decide +kernel
theorem dX4_init_63 : decode cX4_init 63 = .ok (.putfield 30, 3) := by decide +kernel
theorem dX4_init_66 : decode cX4_init 66 = .ok (.aload_n 0, 1) := by decide +kernel
theorem dX4_init_67 : decode cX4_init 67 = .ok (.bipush 40, 2) := by decide +kernel
theorem dX4_init_69 : decode cX4_init 69 = .ok (.newarray .int, 2) := by decide +kernel
theorem dX4_init_71 : decode cX4_init 71 = .ok (.putfield 33, 3) := by decide +kernel
theorem dX4_init_74 : decode cX4_init 74 = .ok (.aload_n 0, 1) := by decide +kernel
theorem dX4_init_75 : decode cX4_init 75 = .ok (.bipush 40, 2) := by decide +kernel
theorem dX4_init_77 : decode cX4_init 77 = .ok (.newarray .int, 2) := by decide +kernel
theorem dX4_init_79 : decode cX4_init 79 = .ok (.putfield 36, 3) := by decide +kernel
theorem dX4_init_82 : decode cX4_init 82 = .ok (.aload_n 0, 1) := by decide +kernel
theorem dX4_init_83 : decode cX4_init 83 = .ok (.bipush 100, 2) := by decide +kernel
theorem dX4_init_85 : decode cX4_init 85 = .ok (.newarray .int, 2) := by decide +kernel
theorem dX4_init_87 : decode cX4_init 87 = .ok (.putfield 39, 3) := by decide +kernel
theorem dX4_init_90 : decode cX4_init 90 = .ok (.return_, 1) := by decide +kernel
theorem dX4_hasEnd_0 : decode cX4_hasEnd 0 = .ok (.iload_n 1, 1) := by decide +kernel
theorem dX4_hasEnd_1 : decode cX4_hasEnd 1 = .ok (.ifCond .lt 17, 3) := by decide +kernel
theorem dX4_hasEnd_4 : decode cX4_hasEnd 4 = .ok (.iload_n 1, 1) := by decide +kernel
theorem dX4_hasEnd_5 : decode cX4_hasEnd 5 = .ok (.iconst 4, 1) := by decide +kernel
theorem dX4_hasEnd_6 : decode cX4_hasEnd 6 = .ok (.aload_n 0, 1) := by decide +kernel
theorem dX4_hasEnd_7 : decode cX4_hasEnd 7 = .ok (.getfield 42, 3) := by decide +kernel
theorem dX4_hasEnd_10 : decode cX4_hasEnd 10 = .ok (.imul, 1) := by decide +kernel
theorem dX4_hasEnd_11 : decode cX4_hasEnd 11 = .ok (.if_icmp .ge 7, 3) := by decide +kernel
theorem dX4_hasEnd_14 : decode cX4_hasEnd 14 = .ok (.iconst 1, 1) := by decide +kernel
theorem dX4_hasEnd_15 : decode cX4_hasEnd 15 = .ok (.goto 4, 3) := by decide +kernel
theorem dX4_hasEnd_18 : decode cX4_hasEnd 18 = .ok (.iconst 0, 1) := by decide +kernel
theorem dX4_hasEnd_19 : decode cX4_hasEnd 19 = .ok (.ireturn, 1) := by decide +kernel
theorem dX4_allPieces_0 : decode cX4_allPieces 0 = .ok (.aload_n 0, 1) := by decide +kernel
theorem dX4_allPieces_1 : decode cX4_allPieces 1 = .ok (.getfield 46, 3) := by decide +kernel
theorem dX4_allPieces_4 : decode cX4_allPieces 4 = .ok (.aload_n 0, 1) := by decide +kernel
theorem dX4_allPieces_5 : decode cX4_allPieces 5 = .ok (.getfield 49, 3) := by decide +kernel
theorem dX4_allPieces_8 : decode cX4_allPieces 8 = .ok (.iadd, 1) := by decide +kernel
theorem dX4_allPieces_9 : decode cX4_allPieces 9 = .ok (.ireturn, 1) := by decide +kernel
theorem dX4_survey_0 : decode cX4_survey 0 = .ok (.aload_n 0, 1) := by decide +kernel
theorem dX4_survey_1 : decode cX4_survey 1 = .ok (.aload_n 1, 1) := by decide +kernel
theorem dX4_survey_2 : decode cX4_survey 2 = .ok (.getfield 52, 3) := by decide +kernel
theorem dX4_survey_5 : decode cX4_survey 5 = .ok (.putfield 42, 3) := by decide +kernel
theorem dX4_survey_8 : decode cX4_survey 8 = .ok (.aload_n 0, 1) := by decide +kernel
theorem dX4_survey_9 : decode cX4_survey 9 = .ok (.aload_n 1, 1) := by decide +kernel
theorem dX4_survey_10 : decode cX4_survey 10 = .ok (.getfield 55, 3) := by decide +kernel
theorem dX4_survey_13 : decode cX4_survey 13 = .ok (.putfield 49, 3) := by decide +kernel
theorem dX4_survey_16 : decode cX4_survey 16 = .ok (.aload_n 0, 1) := by decide +kernel
theorem dX4_survey_17 : decode cX4_survey 17 = .ok (.iconst 0, 1) := by decide +kernel
theorem dX4_survey_18 : decode cX4_survey 18 = .ok (.putfield 56, 3) := by decide +kernel
theorem dX4_survey_21 : decode cX4_survey 21 = .ok (.aload_n 0, 1) := by decide +kernel
theorem dX4_survey_22 : decode cX4_survey 22 = .ok (.iconst (-1), 1) := by decide +kernel
theorem dX4_survey_23 : decode cX4_survey 23 = .ok (.putfield 59, 3) := by decide +kernel
theorem dX4_survey_26 : decode cX4_survey 26 = .ok (.aload_n 0, 1) := by decide +kernel
theorem dX4_survey_27 : decode cX4_survey 27 = .ok (.aload_n 1, 1) := by decide +kernel
theorem dX4_survey_28 : decode cX4_survey 28 = .ok (.invokevirtual 62, 3) := by decide +kernel
theorem dX4_survey_31 : decode cX4_survey 31 = .ok (.aload_n 0, 1) := by decide +kernel
theorem dX4_survey_32 : decode cX4_survey 32 = .ok (.getfield 56, 3) := by decide +kernel
theorem dX4_survey_35 : decode cX4_survey 35 = .ok (.ifCond .eq 4, 3) := by decide +kernel
theorem dX4_survey_38 : decode cX4_survey 38 = .ok (.return_, 1) := by decide +kernel
theorem dX4_survey_39 : decode cX4_survey 39 = .ok (.aload_n 0, 1) := by decide +kernel
theorem dX4_survey_40 : decode cX4_survey 40 = .ok (.aload_n 1, 1) := by decide +kernel
theorem dX4_survey_41 : decode cX4_survey 41 = .ok (.invokevirtual 66, 3) := by decide +kernel
theorem dX4_survey_44 : decode cX4_survey 44 = .ok (.aload_n 0, 1) := by decide +kernel
theorem dX4_survey_45 : decode cX4_survey 45 = .ok (.invokevirtual 69, 3) := by decide +kernel
theorem dX4_survey_48 : decode cX4_survey 48 = .ok (.aload_n 0, 1) := by decide +kernel
theorem dX4_survey_49 : decode cX4_survey 49 = .ok (.invokevirtual 72, 3) := by decide +kernel
theorem dX4_survey_52 : decode cX4_survey 52 = .ok (.aload_n 0, 1) := by decide +kernel
theorem dX4_survey_53 : decode cX4_survey 53 = .ok (.getfield 75, 3) := by decide +kernel
theorem dX4_survey_56 : decode cX4_survey 56 = .ok (.aload_n 0, 1) := by decide +kernel
theorem dX4_survey_57 : decode cX4_survey 57 = .ok (.getfield 42, 3) := by decide +kernel
theorem dX4_survey_60 : decode cX4_survey 60 = .ok (.iconst 2, 1) := by decide +kernel
theorem dX4_survey_61 : decode cX4_survey 61 = .ok (.aload_n 0, 1) := by decide +kernel
theorem dX4_survey_62 : decode cX4_survey 62 = .ok (.getfield 78, 3) := by decide +kernel
theorem dX4_survey_65 : decode cX4_survey 65 = .ok (.imul, 1) := by decide +kernel
theorem dX4_survey_66 : decode cX4_survey 66 = .ok (.iadd, 1) := by decide +kernel
theorem dX4_survey_67 : decode cX4_survey 67 = .ok (.if_icmp .eq 9, 3) := by decide +kernel
theorem dX4_survey_70 : decode cX4_survey 70 = .ok (.aload_n 0, 1) := by decide +kernel
theorem dX4_survey_71 : decode cX4_survey 71 = .ok (.iconst 4, 1) := by decide +kernel
theorem dX4_survey_72 : decode cX4_survey 72 = .ok (.putfield 56, 3) := by decide +kernel
theorem dX4_survey_75 : decode cX4_survey 75 = .ok (.return_, 1) := by decide +kernel
theorem dX4_survey_76 : decode cX4_survey 76 = .ok (.aload_n 0, 1) := by decide +kernel
theorem dX4_survey_77 : decode cX4_survey 77 = .ok (.invokevirtual 81, 3) := by decide +kernel
theorem dX4_survey_80 : decode cX4_survey 80 = .ok (.aload_n 0, 1) := by decide +kernel
theorem dX4_survey_81 : decode cX4_survey 81 = .ok (.invokevirtual 84, 3) := by decide +kernel
theorem dX4_survey_84 : decode cX4_survey 84 = .ok (.return_, 1) := by decide +kernel
theorem dX4_blame_0 : decode cX4_blame 0 = .ok (.aload_n 0, 1) := by decide +kernel
theorem dX4_blame_1 : decode cX4_blame 1 = .ok (.getfield 56, 3) := by decide +kernel
theorem dX4_blame_4 : decode cX4_blame 4 = .ok (.ifCond .ne 13, 3) := by decide +kernel
theorem dX4_blame_7 : decode cX4_blame 7 = .ok (.aload_n 0, 1) := by decide +kernel
theorem dX4_blame_8 : decode cX4_blame 8 = .ok (.iload_n 1, 1) := by decide +kernel
theorem dX4_blame_9 : decode cX4_blame 9 = .ok (.putfield 56, 3) := by decide +kernel
theorem dX4_blame_12 : decode cX4_blame 12 = .ok (.aload_n 0, 1) := by decide +kernel
theorem dX4_blame_13 : decode cX4_blame 13 = .ok (.iload_n 2, 1) := by decide +kernel
theorem dX4_blame_14 : decode cX4_blame 14 = .ok (.putfield 59, 3) := by decide +kernel
theorem dX4_blame_17 : decode cX4_blame 17 = .ok (.return_, 1) := by decide +kernel
theorem dX4_findFault_0 : decode cX4_findFault 0 = .ok (.iconst 0, 1) := by decide +kernel
theorem dX4_findFault_1 : decode cX4_findFault 1 = .ok (.istore_n 2, 1) := by decide +kernel
theorem dX4_findFault_2 : decode cX4_findFault 2 = .ok (.iload_n 2, 1) := by decide +kernel
theorem dX4_findFault_3 : decode cX4_findFault 3 = .ok (.aload_n 0, 1) := by decide +kernel
theorem dX4_findFault_4 : decode cX4_findFault 4 = .ok (.getfield 42, 3) := by decide +kernel
theorem dX4_findFault_7 : decode cX4_findFault 7 = .ok (.if_icmp .ge 25, 3) := by decide +kernel
theorem dX4_findFault_10 : decode cX4_findFault 10 = .ok (.aload_n 1, 1) := by decide +kernel
theorem dX4_findFault_11 : decode cX4_findFault 11 = .ok (.getfield 87, 3) := by decide +kernel
theorem dX4_findFault_14 : decode cX4_findFault 14 = .ok (.iload_n 2, 1) := by decide +kernel
theorem dX4_findFault_15 : decode cX4_findFault 15 = .ok (.iaload, 1) := by decide +kernel
theorem dX4_findFault_16 : decode cX4_findFault 16 = .ok (.iconst 4, 1) := by decide +kernel
theorem dX4_findFault_17 : decode cX4_findFault 17 = .ok (.if_icmp .eq 9, 3) := by decide +kernel
theorem dX4_findFault_20 : decode cX4_findFault 20 = .ok (.aload_n 0, 1) := by decide +kernel
theorem dX4_findFault_21 : decode cX4_findFault 21 = .ok (.iconst 1, 1) := by decide +kernel
theorem dX4_findFault_22 : decode cX4_findFault 22 = .ok (.iload_n 2, 1) := by decide +kernel
theorem dX4_findFault_23 : decode cX4_findFault 23 = .ok (.invokevirtual 90, 3) := by decide +kernel
theorem dX4_findFault_26 : decode cX4_findFault 26 = .ok (.iinc 2 1, 3) := by decide +kernel
theorem dX4_findFault_29 : decode cX4_findFault 29 = .ok (.goto (-27), 3) := by decide +kernel
theorem dX4_findFault_32 : decode cX4_findFault 32 = .ok (.iconst 0, 1) := by decide +kernel
theorem dX4_findFault_33 : decode cX4_findFault 33 = .ok (.istore_n 2, 1) := by decide +kernel
theorem dX4_findFault_34 : decode cX4_findFault 34 = .ok (.iload_n 2, 1) := by decide +kernel
theorem dX4_findFault_35 : decode cX4_findFault 35 = .ok (.iconst 4, 1) := by decide +kernel
theorem dX4_findFault_36 : decode cX4_findFault 36 = .ok (.aload_n 0, 1) := by decide +kernel
theorem dX4_findFault_37 : decode cX4_findFault 37 = .ok (.getfield 42, 3) := by decide +kernel
theorem dX4_findFault_40 : decode cX4_findFault 40 = .ok (.imul, 1) := by decide +kernel
theorem dX4_findFault_41 : decode cX4_findFault 41 = .ok (.if_icmp .ge 26, 3) := by decide +kernel
theorem dX4_findFault_44 : decode cX4_findFault 44 = .ok (.aload_n 1, 1) := by decide +kernel
theorem dX4_findFault_45 : decode cX4_findFault 45 = .ok (.getfield 94, 3) := by decide +kernel
theorem dX4_findFault_48 : decode cX4_findFault 48 = .ok (.iload_n 2, 1) := by decide +kernel
theorem dX4_findFault_49 : decode cX4_findFault 49 = .ok (.iaload, 1) := by decide +kernel
theorem dX4_findFault_50 : decode cX4_findFault 50 = .ok (.ifCond .ge 11, 3) := by decide +kernel
theorem dX4_findFault_53 : decode cX4_findFault 53 = .ok (.aload_n 0, 1) := by decide +kernel
theorem dX4_findFault_54 : decode cX4_findFault 54 = .ok (.iconst 2, 1) := by decide +kernel
theorem dX4_findFault_55 : decode cX4_findFault 55 = .ok (.iload_n 2, 1) := by decide +kernel
theorem dX4_findFault_56 : decode cX4_findFault 56 = .ok (.iconst 2, 1) := by decide +kernel
theorem dX4_findFault_57 : decode cX4_findFault 57 = .ok (.ishr, 1) := by decide +kernel
theorem dX4_findFault_58 : decode cX4_findFault 58 = .ok (.invokevirtual 90, 3) := by decide +kernel
theorem dX4_findFault_61 : decode cX4_findFault 61 = .ok (.iinc 2 1, 3) := by decide +kernel
theorem dX4_findFault_64 : decode cX4_findFault 64 = .ok (.goto (-30), 3) := by decide +kernel
theorem dX4_findFault_67 : decode cX4_findFault 67 = .ok (.aload_n 0, 1) := by decide +kernel
theorem dX4_findFault_68 : decode cX4_findFault 68 = .ok (.getfield 56, 3) := by decide +kernel
theorem dX4_findFault_71 : decode cX4_findFault 71 = .ok (.ifCond .eq 4, 3) := by decide +kernel
theorem dX4_findFault_74 : decode cX4_findFault 74 = .ok (.return_, 1) := by decide +kernel
theorem dX4_findFault_75 : decode cX4_findFault 75 = .ok (.aload_n 0, 1) := by decide +kernel
theorem dX4_findFault_76 : decode cX4_findFault 76 = .ok (.getfield 39, 3) := by decide +kernel
theorem dX4_findFault_79 : decode cX4_findFault 79 = .ok (.iconst 0, 1) := by decide +kernel
theorem dX4_findFault_80 : decode cX4_findFault 80 = .ok (.invokestatic 97, 3) := by decide +kernel
theorem dX4_findFault_83 : decode cX4_findFault 83 = .ok (.iconst 0, 1) := by decide +kernel
theorem dX4_findFault_84 : decode cX4_findFault 84 = .ok (.istore_n 2, 1) := by decide +kernel
theorem dX4_findFault_85 : decode cX4_findFault 85 = .ok (.iload_n 2, 1) := by decide +kernel
theorem dX4_findFault_86 : decode cX4_findFault 86 = .ok (.iconst 4, 1) := by decide +kernel
theorem dX4_findFault_87 : decode cX4_findFault 87 = .ok (.aload_n 0, 1) := by decide +kernel
theorem dX4_findFault_88 : decode cX4_findFault 88 = .ok (.getfield 42, 3) := by decide +kernel
theorem dX4_findFault_91 : decode cX4_findFault 91 = .ok (.imul, 1) := by decide +kernel
theorem dX4_findFault_92 : decode cX4_findFault 92 = .ok (.if_icmp .ge 24, 3) := by decide +kernel
theorem dX4_findFault_95 : decode cX4_findFault 95 = .ok (.aload_n 0, 1) := by decide +kernel
theorem dX4_findFault_96 : decode cX4_findFault 96 = .ok (.getfield 39, 3) := by decide +kernel
theorem dX4_findFault_99 : decode cX4_findFault 99 = .ok (.aload_n 1, 1) := by decide +kernel
theorem dX4_findFault_100 : decode cX4_findFault 100 = .ok (.getfield 94, 3) := by decide +kernel
theorem dX4_findFault_103 : decode cX4_findFault 103 = .ok (.iload_n 2, 1) := by decide +kernel
theorem dX4_findFault_104 : decode cX4_findFault 104 = .ok (.iaload, 1) := by decide +kernel
theorem dX4_findFault_105 : decode cX4_findFault 105 = .ok (.dup2, 1) := by decide +kernel
theorem dX4_findFault_106 : decode cX4_findFault 106 = .ok (.iaload, 1) := by decide +kernel
theorem dX4_findFault_107 : decode cX4_findFault 107 = .ok (.iconst 1, 1) := by decide +kernel
theorem dX4_findFault_108 : decode cX4_findFault 108 = .ok (.iadd, 1) := by decide +kernel
theorem dX4_findFault_109 : decode cX4_findFault 109 = .ok (.iastore, 1) := by decide +kernel
theorem dX4_findFault_110 : decode cX4_findFault 110 = .ok (.iinc 2 1, 3) := by decide +kernel
theorem dX4_findFault_113 : decode cX4_findFault 113 = .ok (.goto (-28), 3) := by decide +kernel
theorem dX4_findFault_116 : decode cX4_findFault 116 = .ok (.iconst 0, 1) := by decide +kernel
theorem dX4_findFault_117 : decode cX4_findFault 117 = .ok (.istore_n 2, 1) := by decide +kernel
theorem dX4_findFault_118 : decode cX4_findFault 118 = .ok (.iload_n 2, 1) := by decide +kernel
theorem dX4_findFault_119 : decode cX4_findFault 119 = .ok (.iconst 4, 1) := by decide +kernel
theorem dX4_findFault_120 : decode cX4_findFault 120 = .ok (.aload_n 0, 1) := by decide +kernel
theorem dX4_findFault_121 : decode cX4_findFault 121 = .ok (.getfield 42, 3) := by decide +kernel
theorem dX4_findFault_124 : decode cX4_findFault 124 = .ok (.imul, 1) := by decide +kernel
theorem dX4_findFault_125 : decode cX4_findFault 125 = .ok (.if_icmp .ge 32, 3) := by decide +kernel
theorem dX4_findFault_128 : decode cX4_findFault 128 = .ok (.aload_n 0, 1) := by decide +kernel
theorem dX4_findFault_129 : decode cX4_findFault 129 = .ok (.getfield 39, 3) := by decide +kernel
theorem dX4_findFault_132 : decode cX4_findFault 132 = .ok (.aload_n 1, 1) := by decide +kernel
theorem dX4_findFault_133 : decode cX4_findFault 133 = .ok (.getfield 94, 3) := by decide +kernel
theorem dX4_findFault_136 : decode cX4_findFault 136 = .ok (.iload_n 2, 1) := by decide +kernel
theorem dX4_findFault_137 : decode cX4_findFault 137 = .ok (.iaload, 1) := by decide +kernel
theorem dX4_findFault_138 : decode cX4_findFault 138 = .ok (.iaload, 1) := by decide +kernel
theorem dX4_findFault_139 : decode cX4_findFault 139 = .ok (.iconst 2, 1) := by decide +kernel
theorem dX4_findFault_140 : decode cX4_findFault 140 = .ok (.if_icmp .eq 11, 3) := by decide +kernel
theorem dX4_findFault_143 : decode cX4_findFault 143 = .ok (.aload_n 0, 1) := by decide +kernel
theorem dX4_findFault_144 : decode cX4_findFault 144 = .ok (.iconst 3, 1) := by decide +kernel
theorem dX4_findFault_145 : decode cX4_findFault 145 = .ok (.iload_n 2, 1) := by decide +kernel
theorem dX4_findFault_146 : decode cX4_findFault 146 = .ok (.iconst 2, 1) := by decide +kernel
theorem dX4_findFault_147 : decode cX4_findFault 147 = .ok (.ishr, 1) := by decide +kernel
theorem dX4_findFault_148 : decode cX4_findFault 148 = .ok (.invokevirtual 90, 3) := by decide +kernel
theorem dX4_findFault_151 : decode cX4_findFault 151 = .ok (.iinc 2 1, 3) := by decide +kernel
theorem dX4_findFault_154 : decode cX4_findFault 154 = .ok (.goto (-36), 3) := by decide +kernel
theorem dX4_findFault_157 : decode cX4_findFault 157 = .ok (.return_, 1) := by decide +kernel
theorem dX4_pairUp_0 : decode cX4_pairUp 0 = .ok (.aload_n 0, 1) := by decide +kernel
theorem dX4_pairUp_1 : decode cX4_pairUp 1 = .ok (.aload_n 1, 1) := by decide +kernel
theorem dX4_pairUp_2 : decode cX4_pairUp 2 = .ok (.getfield 52, 3) := by decide +kernel
theorem dX4_pairUp_5 : decode cX4_pairUp 5 = .ok (.putfield 42, 3) := by decide +kernel
theorem dX4_pairUp_8 : decode cX4_pairUp 8 = .ok (.aload_n 0, 1) := by decide +kernel
theorem dX4_pairUp_9 : decode cX4_pairUp 9 = .ok (.aload_n 1, 1) := by decide +kernel
theorem dX4_pairUp_10 : decode cX4_pairUp 10 = .ok (.getfield 55, 3) := by decide +kernel
theorem dX4_pairUp_13 : decode cX4_pairUp 13 = .ok (.putfield 49, 3) := by decide +kernel
theorem dX4_pairUp_16 : decode cX4_pairUp 16 = .ok (.aload_n 0, 1) := by decide +kernel
theorem dX4_pairUp_17 : decode cX4_pairUp 17 = .ok (.getfield 39, 3) := by decide +kernel
theorem dX4_pairUp_20 : decode cX4_pairUp 20 = .ok (.iconst (-1), 1) := by decide +kernel
theorem dX4_pairUp_21 : decode cX4_pairUp 21 = .ok (.invokestatic 97, 3) := by decide +kernel
theorem dX4_pairUp_24 : decode cX4_pairUp 24 = .ok (.iconst 0, 1) := by decide +kernel
theorem dX4_pairUp_25 : decode cX4_pairUp 25 = .ok (.istore_n 2, 1) := by decide +kernel
theorem dX4_pairUp_26 : decode cX4_pairUp 26 = .ok (.iload_n 2, 1) := by decide +kernel
theorem dX4_pairUp_27 : decode cX4_pairUp 27 = .ok (.iconst 4, 1) := by decide +kernel
theorem dX4_pairUp_28 : decode cX4_pairUp 28 = .ok (.aload_n 0, 1) := by decide +kernel
theorem dX4_pairUp_29 : decode cX4_pairUp 29 = .ok (.getfield 42, 3) := by decide +kernel
theorem dX4_pairUp_32 : decode cX4_pairUp 32 = .ok (.imul, 1) := by decide +kernel
theorem dX4_pairUp_33 : decode cX4_pairUp 33 = .ok (.if_icmp .ge 68, 3) := by decide +kernel
theorem dX4_pairUp_36 : decode cX4_pairUp 36 = .ok (.aload_n 1, 1) := by decide +kernel
theorem dX4_pairUp_37 : decode cX4_pairUp 37 = .ok (.getfield 94, 3) := by decide +kernel
theorem dX4_pairUp_40 : decode cX4_pairUp 40 = .ok (.iload_n 2, 1) := by decide +kernel
theorem dX4_pairUp_41 : decode cX4_pairUp 41 = .ok (.iaload, 1) := by decide +kernel
theorem dX4_pairUp_42 : decode cX4_pairUp 42 = .ok (.istore_n 3, 1) := by decide +kernel
theorem dX4_pairUp_43 : decode cX4_pairUp 43 = .ok (.iload_n 3, 1) := by decide +kernel
theorem dX4_pairUp_44 : decode cX4_pairUp 44 = .ok (.ifCond .lt 51, 3) := by decide +kernel
theorem dX4_pairUp_47 : decode cX4_pairUp 47 = .ok (.iload_n 3, 1) := by decide +kernel
theorem dX4_pairUp_48 : decode cX4_pairUp 48 = .ok (.bipush 100, 2) := by decide +kernel
theorem dX4_pairUp_50 : decode cX4_pairUp 50 = .ok (.if_icmp .lt 6, 3) := by decide +kernel
theorem dX4_pairUp_53 : decode cX4_pairUp 53 = .ok (.goto 42, 3) := by decide +kernel
theorem dX4_pairUp_56 : decode cX4_pairUp 56 = .ok (.aload_n 0, 1) := by decide +kernel
theorem dX4_pairUp_57 : decode cX4_pairUp 57 = .ok (.getfield 39, 3) := by decide +kernel
theorem dX4_pairUp_60 : decode cX4_pairUp 60 = .ok (.iload_n 3, 1) := by decide +kernel
theorem dX4_pairUp_61 : decode cX4_pairUp 61 = .ok (.iaload, 1) := by decide +kernel
theorem dX4_pairUp_62 : decode cX4_pairUp 62 = .ok (.istore 4, 2) := by decide +kernel
theorem dX4_pairUp_64 : decode cX4_pairUp 64 = .ok (.iload 4, 2) := by decide +kernel
theorem dX4_pairUp_66 : decode cX4_pairUp 66 = .ok (.ifCond .ge 13, 3) := by decide +kernel
theorem dX4_pairUp_69 : decode cX4_pairUp 69 = .ok (.aload_n 0, 1) := by decide +kernel
theorem dX4_pairUp_70 : decode cX4_pairUp 70 = .ok (.getfield 39, 3) := by decide +kernel
theorem dX4_pairUp_73 : decode cX4_pairUp 73 = .ok (.iload_n 3, 1) := by decide +kernel
theorem dX4_pairUp_74 : decode cX4_pairUp 74 = .ok (.iload_n 2, 1) := by decide +kernel
theorem dX4_pairUp_75 : decode cX4_pairUp 75 = .ok (.iastore, 1) := by decide +kernel
theorem dX4_pairUp_76 : decode cX4_pairUp 76 = .ok (.goto 19, 3) := by decide +kernel
theorem dX4_pairUp_79 : decode cX4_pairUp 79 = .ok (.aload_n 0, 1) := by decide +kernel
theorem dX4_pairUp_80 : decode cX4_pairUp 80 = .ok (.getfield 9, 3) := by decide +kernel
theorem dX4_pairUp_83 : decode cX4_pairUp 83 = .ok (.iload_n 2, 1) := by decide +kernel
theorem dX4_pairUp_84 : decode cX4_pairUp 84 = .ok (.iload 4, 2) := by decide +kernel
theorem dX4_pairUp_86 : decode cX4_pairUp 86 = .ok (.iastore, 1) := by decide +kernel
theorem dX4_pairUp_87 : decode cX4_pairUp 87 = .ok (.aload_n 0, 1) := by decide +kernel
theorem dX4_pairUp_88 : decode cX4_pairUp 88 = .ok (.getfield 9, 3) := by decide +kernel
theorem dX4_pairUp_91 : decode cX4_pairUp 91 = .ok (.iload 4, 2) := by decide +kernel
theorem dX4_pairUp_93 : decode cX4_pairUp 93 = .ok (.iload_n 2, 1) := by decide +kernel
theorem dX4_pairUp_94 : decode cX4_pairUp 94 = .ok (.iastore, 1) := by decide +kernel
theorem dX4_pairUp_95 : decode cX4_pairUp 95 = .ok (.iinc 2 1, 3) := by decide +kernel
theorem dX4_pairUp_98 : decode cX4_pairUp 98 = .ok (.goto (-72), 3) := by decide +kernel
theorem dX4_pairUp_101 : decode cX4_pairUp 101 = .ok (.return_, 1) := by decide +kernel
theorem dX4_nextInRegion_0 : decode cX4_nextInRegion 0 = .ok (.aload_n 0, 1) := by decide +kernel
theorem dX4_nextInRegion_1 : decode cX4_nextInRegion 1 = .ok (.getfield 9, 3) := by decide +kernel
theorem dX4_nextInRegion_4 : decode cX4_nextInRegion 4 = .ok (.iload_n 1, 1) := by decide +kernel
theorem dX4_nextInRegion_5 : decode cX4_nextInRegion 5 = .ok (.iaload, 1) := by decide +kernel
theorem dX4_nextInRegion_6 : decode cX4_nextInRegion 6 = .ok (.iconst 3, 1) := by decide +kernel
theorem dX4_nextInRegion_7 : decode cX4_nextInRegion 7 = .ok (.invokestatic 103, 3) := by decide +kernel
theorem dX4_nextInRegion_10 : decode cX4_nextInRegion 10 = .ok (.ireturn, 1) := by decide +kernel
theorem dX4_findRegions_0 : decode cX4_findRegions 0 = .ok (.aload_n 0, 1) := by decide +kernel
theorem dX4_findRegions_1 : decode cX4_findRegions 1 = .ok (.getfield 15, 3) := by decide +kernel
theorem dX4_findRegions_4 : decode cX4_findRegions 4 = .ok (.iconst (-1), 1) := by decide +kernel
theorem dX4_findRegions_5 : decode cX4_findRegions 5 = .ok (.invokestatic 97, 3) := by decide +kernel
theorem dX4_findRegions_8 : decode cX4_findRegions 8 = .ok (.aload_n 0, 1) := by decide +kernel
theorem dX4_findRegions_9 : decode cX4_findRegions 9 = .ok (.iconst 0, 1) := by decide +kernel
theorem dX4_findRegions_10 : decode cX4_findRegions 10 = .ok (.putfield 75, 3) := by decide +kernel
theorem dX4_findRegions_13 : decode cX4_findRegions 13 = .ok (.iconst 0, 1) := by decide +kernel
theorem dX4_findRegions_14 : decode cX4_findRegions 14 = .ok (.istore_n 1, 1) := by decide +kernel
theorem dX4_findRegions_15 : decode cX4_findRegions 15 = .ok (.iload_n 1, 1) := by decide +kernel
theorem dX4_findRegions_16 : decode cX4_findRegions 16 = .ok (.iconst 4, 1) := by decide +kernel
theorem dX4_findRegions_17 : decode cX4_findRegions 17 = .ok (.aload_n 0, 1) := by decide +kernel
theorem dX4_findRegions_18 : decode cX4_findRegions 18 = .ok (.getfield 42, 3) := by decide +kernel
theorem dX4_findRegions_21 : decode cX4_findRegions 21 = .ok (.imul, 1) := by decide +kernel
theorem dX4_findRegions_22 : decode cX4_findRegions 22 = .ok (.if_icmp .ge 23, 3) := by decide +kernel
theorem dX4_findRegions_25 : decode cX4_findRegions 25 = .ok (.aload_n 0, 1) := by decide +kernel
theorem dX4_findRegions_26 : decode cX4_findRegions 26 = .ok (.getfield 15, 3) := by decide +kernel
theorem dX4_findRegions_29 : decode cX4_findRegions 29 = .ok (.iload_n 1, 1) := by decide +kernel
theorem dX4_findRegions_30 : decode cX4_findRegions 30 = .ok (.iaload, 1) := by decide +kernel
theorem dX4_findRegions_31 : decode cX4_findRegions 31 = .ok (.ifCond .ge 8, 3) := by decide +kernel
theorem dX4_findRegions_34 : decode cX4_findRegions 34 = .ok (.aload_n 0, 1) := by decide +kernel
theorem dX4_findRegions_35 : decode cX4_findRegions 35 = .ok (.iload_n 1, 1) := by decide +kernel
theorem dX4_findRegions_36 : decode cX4_findRegions 36 = .ok (.invokevirtual 107, 3) := by decide +kernel
theorem dX4_findRegions_39 : decode cX4_findRegions 39 = .ok (.iinc 1 1, 3) := by decide +kernel
theorem dX4_findRegions_42 : decode cX4_findRegions 42 = .ok (.goto (-27), 3) := by decide +kernel
theorem dX4_findRegions_45 : decode cX4_findRegions 45 = .ok (.return_, 1) := by decide +kernel
theorem dX4_walkRegion_0 : decode cX4_walkRegion 0 = .ok (.iconst 0, 1) := by decide +kernel
theorem dX4_walkRegion_1 : decode cX4_walkRegion 1 = .ok (.istore_n 2, 1) := by decide +kernel
theorem dX4_walkRegion_2 : decode cX4_walkRegion 2 = .ok (.iload_n 1, 1) := by decide +kernel
theorem dX4_walkRegion_3 : decode cX4_walkRegion 3 = .ok (.istore_n 3, 1) := by decide +kernel
theorem dX4_walkRegion_4 : decode cX4_walkRegion 4 = .ok (.iconst 0, 1) := by decide +kernel
theorem dX4_walkRegion_5 : decode cX4_walkRegion 5 = .ok (.istore 4, 2) := by decide +kernel
theorem dX4_walkRegion_7 : decode cX4_walkRegion 7 = .ok (.iload 4, 2) := by decide +kernel
theorem dX4_walkRegion_9 : decode cX4_walkRegion 9 = .ok (.sipush 160, 3) := by decide +kernel
theorem dX4_walkRegion_12 : decode cX4_walkRegion 12 = .ok (.if_icmp .ge 42, 3) := by decide +kernel
theorem dX4_walkRegion_15 : decode cX4_walkRegion 15 = .ok (.aload_n 0, 1) := by decide +kernel
theorem dX4_walkRegion_16 : decode cX4_walkRegion 16 = .ok (.getfield 15, 3) := by decide +kernel
theorem dX4_walkRegion_19 : decode cX4_walkRegion 19 = .ok (.iload_n 3, 1) := by decide +kernel
theorem dX4_walkRegion_20 : decode cX4_walkRegion 20 = .ok (.iaload, 1) := by decide +kernel
theorem dX4_walkRegion_21 : decode cX4_walkRegion 21 = .ok (.ifCond .ge 33, 3) := by decide +kernel
theorem dX4_walkRegion_24 : decode cX4_walkRegion 24 = .ok (.aload_n 0, 1) := by decide +kernel
theorem dX4_walkRegion_25 : decode cX4_walkRegion 25 = .ok (.getfield 15, 3) := by decide +kernel
theorem dX4_walkRegion_28 : decode cX4_walkRegion 28 = .ok (.iload_n 3, 1) := by decide +kernel
theorem dX4_walkRegion_29 : decode cX4_walkRegion 29 = .ok (.aload_n 0, 1) := by decide +kernel
theorem dX4_walkRegion_30 : decode cX4_walkRegion 30 = .ok (.getfield 75, 3) := by decide +kernel
theorem dX4_walkRegion_33 : decode cX4_walkRegion 33 = .ok (.iastore, 1) := by decide +kernel
theorem dX4_walkRegion_34 : decode cX4_walkRegion 34 = .ok (.iinc 2 1, 3) := by decide +kernel
theorem dX4_walkRegion_37 : decode cX4_walkRegion 37 = .ok (.aload_n 0, 1) := by decide +kernel
theorem dX4_walkRegion_38 : decode cX4_walkRegion 38 = .ok (.getfield 9, 3) := by decide +kernel
theorem dX4_walkRegion_41 : decode cX4_walkRegion 41 = .ok (.iload_n 3, 1) := by decide +kernel
theorem dX4_walkRegion_42 : decode cX4_walkRegion 42 = .ok (.iaload, 1) := by decide +kernel
theorem dX4_walkRegion_43 : decode cX4_walkRegion 43 = .ok (.iconst 3, 1) := by decide +kernel
theorem dX4_walkRegion_44 : decode cX4_walkRegion 44 = .ok (.invokestatic 103, 3) := by decide +kernel
theorem dX4_walkRegion_47 : decode cX4_walkRegion 47 = .ok (.istore_n 3, 1) := by decide +kernel
theorem dX4_walkRegion_48 : decode cX4_walkRegion 48 = .ok (.iinc 4 1, 3) := by decide +kernel
theorem dX4_walkRegion_51 : decode cX4_walkRegion 51 = .ok (.goto (-44), 3) := by decide +kernel
theorem dX4_walkRegion_54 : decode cX4_walkRegion 54 = .ok (.aload_n 0, 1) := by decide +kernel
theorem dX4_walkRegion_55 : decode cX4_walkRegion 55 = .ok (.getfield 18, 3) := by decide +kernel
theorem dX4_walkRegion_58 : decode cX4_walkRegion 58 = .ok (.aload_n 0, 1) := by decide +kernel
theorem dX4_walkRegion_59 : decode cX4_walkRegion 59 = .ok (.getfield 75, 3) := by decide +kernel
theorem dX4_walkRegion_62 : decode cX4_walkRegion 62 = .ok (.iload_n 2, 1) := by decide +kernel
theorem dX4_walkRegion_63 : decode cX4_walkRegion 63 = .ok (.iastore, 1) := by decide +kernel
theorem dX4_walkRegion_64 : decode cX4_walkRegion 64 = .ok (.aload_n 0, 1) := by decide +kernel
theorem dX4_walkRegion_65 : decode cX4_walkRegion 65 = .ok (.dup, 1) := by decide +kernel
theorem dX4_walkRegion_66 : decode cX4_walkRegion 66 = .ok (.getfield 75, 3) := by decide +kernel
theorem dX4_walkRegion_69 : decode cX4_walkRegion 69 = .ok (.iconst 1, 1) := by decide +kernel
theorem dX4_walkRegion_70 : decode cX4_walkRegion 70 = .ok (.iadd, 1) := by decide +kernel
theorem dX4_walkRegion_71 : decode cX4_walkRegion 71 = .ok (.putfield 75, 3) := by decide +kernel
theorem dX4_walkRegion_74 : decode cX4_walkRegion 74 = .ok (.return_, 1) := by decide +kernel
theorem dX4_findParts_0 : decode cX4_findParts 0 = .ok (.aload_n 0, 1) := by decide +kernel
theorem dX4_findParts_1 : decode cX4_findParts 1 = .ok (.getfield 33, 3) := by decide +kernel
theorem dX4_findParts_4 : decode cX4_findParts 4 = .ok (.iconst (-1), 1) := by decide +kernel
theorem dX4_findParts_5 : decode cX4_findParts 5 = .ok (.invokestatic 97, 3) := by decide +kernel
theorem dX4_findParts_8 : decode cX4_findParts 8 = .ok (.aload_n 0, 1) := by decide +kernel
theorem dX4_findParts_9 : decode cX4_findParts 9 = .ok (.iconst 0, 1) := by decide +kernel
theorem dX4_findParts_10 : decode cX4_findParts 10 = .ok (.putfield 78, 3) := by decide +kernel
theorem dX4_findParts_13 : decode cX4_findParts 13 = .ok (.iconst 0, 1) := by decide +kernel
theorem dX4_findParts_14 : decode cX4_findParts 14 = .ok (.istore_n 1, 1) := by decide +kernel
theorem dX4_findParts_15 : decode cX4_findParts 15 = .ok (.iload_n 1, 1) := by decide +kernel
theorem dX4_findParts_16 : decode cX4_findParts 16 = .ok (.aload_n 0, 1) := by decide +kernel
theorem dX4_findParts_17 : decode cX4_findParts 17 = .ok (.getfield 42, 3) := by decide +kernel
theorem dX4_findParts_20 : decode cX4_findParts 20 = .ok (.if_icmp .ge 33, 3) := by decide +kernel
theorem dX4_findParts_23 : decode cX4_findParts 23 = .ok (.aload_n 0, 1) := by decide +kernel
theorem dX4_findParts_24 : decode cX4_findParts 24 = .ok (.getfield 33, 3) := by decide +kernel
theorem dX4_findParts_27 : decode cX4_findParts 27 = .ok (.iload_n 1, 1) := by decide +kernel
theorem dX4_findParts_28 : decode cX4_findParts 28 = .ok (.iaload, 1) := by decide +kernel
theorem dX4_findParts_29 : decode cX4_findParts 29 = .ok (.ifCond .ge 18, 3) := by decide +kernel
theorem dX4_findParts_32 : decode cX4_findParts 32 = .ok (.aload_n 0, 1) := by decide +kernel
theorem dX4_findParts_33 : decode cX4_findParts 33 = .ok (.iload_n 1, 1) := by decide +kernel
theorem dX4_findParts_34 : decode cX4_findParts 34 = .ok (.invokevirtual 111, 3) := by decide +kernel
theorem dX4_findParts_37 : decode cX4_findParts 37 = .ok (.aload_n 0, 1) := by decide +kernel
theorem dX4_findParts_38 : decode cX4_findParts 38 = .ok (.dup, 1) := by decide +kernel
theorem dX4_findParts_39 : decode cX4_findParts 39 = .ok (.getfield 78, 3) := by decide +kernel
theorem dX4_findParts_42 : decode cX4_findParts 42 = .ok (.iconst 1, 1) := by decide +kernel
theorem dX4_findParts_43 : decode cX4_findParts 43 = .ok (.iadd, 1) := by decide +kernel
theorem dX4_findParts_44 : decode cX4_findParts 44 = .ok (.putfield 78, 3) := by decide +kernel
theorem dX4_findParts_47 : decode cX4_findParts 47 = .ok (.iinc 1 1, 3) := by decide +kernel
theorem dX4_findParts_50 : decode cX4_findParts 50 = .ok (.goto (-35), 3) := by decide +kernel
theorem dX4_findParts_53 : decode cX4_findParts 53 = .ok (.return_, 1) := by decide +kernel
theorem dX4_spreadPart_0 : decode cX4_spreadPart 0 = .ok (.iconst 1, 1) := by decide +kernel
theorem dX4_spreadPart_1 : decode cX4_spreadPart 1 = .ok (.istore_n 2, 1) := by decide +kernel
theorem dX4_spreadPart_2 : decode cX4_spreadPart 2 = .ok (.aload_n 0, 1) := by decide +kernel
theorem dX4_spreadPart_3 : decode cX4_spreadPart 3 = .ok (.getfield 36, 3) := by decide +kernel
theorem dX4_spreadPart_6 : decode cX4_spreadPart 6 = .ok (.iconst 0, 1) := by decide +kernel
theorem dX4_spreadPart_7 : decode cX4_spreadPart 7 = .ok (.iload_n 1, 1) := by decide +kernel
theorem dX4_spreadPart_8 : decode cX4_spreadPart 8 = .ok (.iastore, 1) := by decide +kernel
theorem dX4_spreadPart_9 : decode cX4_spreadPart 9 = .ok (.aload_n 0, 1) := by decide +kernel
theorem dX4_spreadPart_10 : decode cX4_spreadPart 10 = .ok (.getfield 33, 3) := by decide +kernel
theorem dX4_spreadPart_13 : decode cX4_spreadPart 13 = .ok (.iload_n 1, 1) := by decide +kernel
theorem dX4_spreadPart_14 : decode cX4_spreadPart 14 = .ok (.aload_n 0, 1) := by decide +kernel
theorem dX4_spreadPart_15 : decode cX4_spreadPart 15 = .ok (.getfield 78, 3) := by decide +kernel
theorem dX4_spreadPart_18 : decode cX4_spreadPart 18 = .ok (.iastore, 1) := by decide +kernel
theorem dX4_spreadPart_19 : decode cX4_spreadPart 19 = .ok (.iconst 0, 1) := by decide +kernel
theorem dX4_spreadPart_20 : decode cX4_spreadPart 20 = .ok (.istore_n 3, 1) := by decide +kernel
theorem dX4_spreadPart_21 : decode cX4_spreadPart 21 = .ok (.iload_n 3, 1) := by decide +kernel
theorem dX4_spreadPart_22 : decode cX4_spreadPart 22 = .ok (.iload_n 2, 1) := by decide +kernel
theorem dX4_spreadPart_23 : decode cX4_spreadPart 23 = .ok (.if_icmp .ge 82, 3) := by decide +kernel
theorem dX4_spreadPart_26 : decode cX4_spreadPart 26 = .ok (.iload_n 3, 1) := by decide +kernel
theorem dX4_spreadPart_27 : decode cX4_spreadPart 27 = .ok (.bipush 40, 2) := by decide +kernel
theorem dX4_spreadPart_29 : decode cX4_spreadPart 29 = .ok (.if_icmp .ge 76, 3) := by decide +kernel
theorem dX4_spreadPart_32 : decode cX4_spreadPart 32 = .ok (.iconst 0, 1) := by decide +kernel
theorem dX4_spreadPart_33 : decode cX4_spreadPart 33 = .ok (.istore 4, 2) := by decide +kernel
theorem dX4_spreadPart_35 : decode cX4_spreadPart 35 = .ok (.iload 4, 2) := by decide +kernel
theorem dX4_spreadPart_37 : decode cX4_spreadPart 37 = .ok (.iconst 4, 1) := by decide +kernel
theorem dX4_spreadPart_38 : decode cX4_spreadPart 38 = .ok (.if_icmp .ge 61, 3) := by decide +kernel
theorem dX4_spreadPart_41 : decode cX4_spreadPart 41 = .ok (.aload_n 0, 1) := by decide +kernel
theorem dX4_spreadPart_42 : decode cX4_spreadPart 42 = .ok (.getfield 9, 3) := by decide +kernel
theorem dX4_spreadPart_45 : decode cX4_spreadPart 45 = .ok (.iconst 4, 1) := by decide +kernel
theorem dX4_spreadPart_46 : decode cX4_spreadPart 46 = .ok (.aload_n 0, 1) := by decide +kernel
theorem dX4_spreadPart_47 : decode cX4_spreadPart 47 = .ok (.getfield 36, 3) := by decide +kernel
theorem dX4_spreadPart_50 : decode cX4_spreadPart 50 = .ok (.iload_n 3, 1) := by decide +kernel
theorem dX4_spreadPart_51 : decode cX4_spreadPart 51 = .ok (.iaload, 1) := by decide +kernel
theorem dX4_spreadPart_52 : decode cX4_spreadPart 52 = .ok (.imul, 1) := by decide +kernel
theorem dX4_spreadPart_53 : decode cX4_spreadPart 53 = .ok (.iload 4, 2) := by decide +kernel
theorem dX4_spreadPart_55 : decode cX4_spreadPart 55 = .ok (.iadd, 1) := by decide +kernel
theorem dX4_spreadPart_56 : decode cX4_spreadPart 56 = .ok (.iaload, 1) := by decide +kernel
theorem dX4_spreadPart_57 : decode cX4_spreadPart 57 = .ok (.iconst 2, 1) := by decide +kernel
theorem dX4_spreadPart_58 : decode cX4_spreadPart 58 = .ok (.ishr, 1) := by decide +kernel
theorem dX4_spreadPart_59 : decode cX4_spreadPart 59 = .ok (.istore 5, 2) := by decide +kernel
theorem dX4_spreadPart_61 : decode cX4_spreadPart 61 = .ok (.aload_n 0, 1) := by decide +kernel
theorem dX4_spreadPart_62 : decode cX4_spreadPart 62 = .ok (.getfield 33, 3) := by decide +kernel
theorem dX4_spreadPart_65 : decode cX4_spreadPart 65 = .ok (.iload 5, 2) := by decide +kernel
theorem dX4_spreadPart_67 : decode cX4_spreadPart 67 = .ok (.iaload, 1) := by decide +kernel
theorem dX4_spreadPart_68 : decode cX4_spreadPart 68 = .ok (.ifCond .ge 25, 3) := by decide +kernel
theorem dX4_spreadPart_71 : decode cX4_spreadPart 71 = .ok (.aload_n 0, 1) := by decide +kernel
theorem dX4_spreadPart_72 : decode cX4_spreadPart 72 = .ok (.getfield 33, 3) := by decide +kernel
theorem dX4_spreadPart_75 : decode cX4_spreadPart 75 = .ok (.iload 5, 2) := by decide +kernel
theorem dX4_spreadPart_77 : decode cX4_spreadPart 77 = .ok (.aload_n 0, 1) := by decide +kernel
theorem dX4_spreadPart_78 : decode cX4_spreadPart 78 = .ok (.getfield 78, 3) := by decide +kernel
theorem dX4_spreadPart_81 : decode cX4_spreadPart 81 = .ok (.iastore, 1) := by decide +kernel
theorem dX4_spreadPart_82 : decode cX4_spreadPart 82 = .ok (.aload_n 0, 1) := by decide +kernel
theorem dX4_spreadPart_83 : decode cX4_spreadPart 83 = .ok (.getfield 36, 3) := by decide +kernel
theorem dX4_spreadPart_86 : decode cX4_spreadPart 86 = .ok (.iload_n 2, 1) := by decide +kernel
theorem dX4_spreadPart_87 : decode cX4_spreadPart 87 = .ok (.iload 5, 2) := by decide +kernel
theorem dX4_spreadPart_89 : decode cX4_spreadPart 89 = .ok (.iastore, 1) := by decide +kernel
theorem dX4_spreadPart_90 : decode cX4_spreadPart 90 = .ok (.iinc 2 1, 3) := by decide +kernel
theorem dX4_spreadPart_93 : decode cX4_spreadPart 93 = .ok (.iinc 4 1, 3) := by decide +kernel
theorem dX4_spreadPart_96 : decode cX4_spreadPart 96 = .ok (.goto (-61), 3) := by decide +kernel
theorem dX4_spreadPart_99 : decode cX4_spreadPart 99 = .ok (.iinc 3 1, 3) := by decide +kernel
theorem dX4_spreadPart_102 : decode cX4_spreadPart 102 = .ok (.goto (-81), 3) := by decide +kernel
theorem dX4_spreadPart_105 : decode cX4_spreadPart 105 = .ok (.return_, 1) := by decide +kernel
theorem dX4_findPieces_0 : decode cX4_findPieces 0 = .ok (.aload_n 0, 1) := by decide +kernel
theorem dX4_findPieces_1 : decode cX4_findPieces 1 = .ok (.getfield 21, 3) := by decide +kernel
theorem dX4_findPieces_4 : decode cX4_findPieces 4 = .ok (.iconst (-1), 1) := by decide +kernel
theorem dX4_findPieces_5 : decode cX4_findPieces 5 = .ok (.invokestatic 97, 3) := by decide +kernel
theorem dX4_findPieces_8 : decode cX4_findPieces 8 = .ok (.aload_n 0, 1) := by decide +kernel
theorem dX4_findPieces_9 : decode cX4_findPieces 9 = .ok (.iconst 0, 1) := by decide +kernel
theorem dX4_findPieces_10 : decode cX4_findPieces 10 = .ok (.putfield 46, 3) := by decide +kernel
theorem dX4_findPieces_13 : decode cX4_findPieces 13 = .ok (.iconst 0, 1) := by decide +kernel
theorem dX4_findPieces_14 : decode cX4_findPieces 14 = .ok (.istore_n 1, 1) := by decide +kernel
theorem dX4_findPieces_15 : decode cX4_findPieces 15 = .ok (.iload_n 1, 1) := by decide +kernel
theorem dX4_findPieces_16 : decode cX4_findPieces 16 = .ok (.iconst 4, 1) := by decide +kernel
theorem dX4_findPieces_17 : decode cX4_findPieces 17 = .ok (.aload_n 0, 1) := by decide +kernel
theorem dX4_findPieces_18 : decode cX4_findPieces 18 = .ok (.getfield 42, 3) := by decide +kernel
theorem dX4_findPieces_21 : decode cX4_findPieces 21 = .ok (.imul, 1) := by decide +kernel
theorem dX4_findPieces_22 : decode cX4_findPieces 22 = .ok (.if_icmp .ge 23, 3) := by decide +kernel
theorem dX4_findPieces_25 : decode cX4_findPieces 25 = .ok (.aload_n 0, 1) := by decide +kernel
theorem dX4_findPieces_26 : decode cX4_findPieces 26 = .ok (.getfield 21, 3) := by decide +kernel
theorem dX4_findPieces_29 : decode cX4_findPieces 29 = .ok (.iload_n 1, 1) := by decide +kernel
theorem dX4_findPieces_30 : decode cX4_findPieces 30 = .ok (.iaload, 1) := by decide +kernel
theorem dX4_findPieces_31 : decode cX4_findPieces 31 = .ok (.ifCond .ge 8, 3) := by decide +kernel
theorem dX4_findPieces_34 : decode cX4_findPieces 34 = .ok (.aload_n 0, 1) := by decide +kernel
theorem dX4_findPieces_35 : decode cX4_findPieces 35 = .ok (.iload_n 1, 1) := by decide +kernel
theorem dX4_findPieces_36 : decode cX4_findPieces 36 = .ok (.invokevirtual 114, 3) := by decide +kernel
theorem dX4_findPieces_39 : decode cX4_findPieces 39 = .ok (.iinc 1 1, 3) := by decide +kernel
theorem dX4_findPieces_42 : decode cX4_findPieces 42 = .ok (.goto (-27), 3) := by decide +kernel
theorem dX4_findPieces_45 : decode cX4_findPieces 45 = .ok (.return_, 1) := by decide +kernel
theorem dX4_walkPiece_0 : decode cX4_walkPiece 0 = .ok (.iload_n 1, 1) := by decide +kernel
theorem dX4_walkPiece_1 : decode cX4_walkPiece 1 = .ok (.istore_n 2, 1) := by decide +kernel
theorem dX4_walkPiece_2 : decode cX4_walkPiece 2 = .ok (.iconst 0, 1) := by decide +kernel
theorem dX4_walkPiece_3 : decode cX4_walkPiece 3 = .ok (.istore_n 3, 1) := by decide +kernel
theorem dX4_walkPiece_4 : decode cX4_walkPiece 4 = .ok (.iload_n 3, 1) := by decide +kernel
theorem dX4_walkPiece_5 : decode cX4_walkPiece 5 = .ok (.sipush 160, 3) := by decide +kernel
theorem dX4_walkPiece_8 : decode cX4_walkPiece 8 = .ok (.if_icmp .ge 69, 3) := by decide +kernel
theorem dX4_walkPiece_11 : decode cX4_walkPiece 11 = .ok (.aload_n 0, 1) := by decide +kernel
theorem dX4_walkPiece_12 : decode cX4_walkPiece 12 = .ok (.getfield 21, 3) := by decide +kernel
theorem dX4_walkPiece_15 : decode cX4_walkPiece 15 = .ok (.iload_n 2, 1) := by decide +kernel
theorem dX4_walkPiece_16 : decode cX4_walkPiece 16 = .ok (.iaload, 1) := by decide +kernel
theorem dX4_walkPiece_17 : decode cX4_walkPiece 17 = .ok (.ifCond .ge 60, 3) := by decide +kernel
theorem dX4_walkPiece_20 : decode cX4_walkPiece 20 = .ok (.aload_n 0, 1) := by decide +kernel
theorem dX4_walkPiece_21 : decode cX4_walkPiece 21 = .ok (.getfield 9, 3) := by decide +kernel
theorem dX4_walkPiece_24 : decode cX4_walkPiece 24 = .ok (.iload_n 2, 1) := by decide +kernel
theorem dX4_walkPiece_25 : decode cX4_walkPiece 25 = .ok (.iaload, 1) := by decide +kernel
theorem dX4_walkPiece_26 : decode cX4_walkPiece 26 = .ok (.istore 4, 2) := by decide +kernel
theorem dX4_walkPiece_28 : decode cX4_walkPiece 28 = .ok (.aload_n 0, 1) := by decide +kernel
theorem dX4_walkPiece_29 : decode cX4_walkPiece 29 = .ok (.getfield 21, 3) := by decide +kernel
theorem dX4_walkPiece_32 : decode cX4_walkPiece 32 = .ok (.iload_n 2, 1) := by decide +kernel
theorem dX4_walkPiece_33 : decode cX4_walkPiece 33 = .ok (.aload_n 0, 1) := by decide +kernel
theorem dX4_walkPiece_34 : decode cX4_walkPiece 34 = .ok (.getfield 46, 3) := by decide +kernel
theorem dX4_walkPiece_37 : decode cX4_walkPiece 37 = .ok (.iastore, 1) := by decide +kernel
theorem dX4_walkPiece_38 : decode cX4_walkPiece 38 = .ok (.aload_n 0, 1) := by decide +kernel
theorem dX4_walkPiece_39 : decode cX4_walkPiece 39 = .ok (.getfield 24, 3) := by decide +kernel
theorem dX4_walkPiece_42 : decode cX4_walkPiece 42 = .ok (.iload_n 2, 1) := by decide +kernel
theorem dX4_walkPiece_43 : decode cX4_walkPiece 43 = .ok (.iconst 1, 1) := by decide +kernel
theorem dX4_walkPiece_44 : decode cX4_walkPiece 44 = .ok (.iastore, 1) := by decide +kernel
theorem dX4_walkPiece_45 : decode cX4_walkPiece 45 = .ok (.aload_n 0, 1) := by decide +kernel
theorem dX4_walkPiece_46 : decode cX4_walkPiece 46 = .ok (.getfield 21, 3) := by decide +kernel
theorem dX4_walkPiece_49 : decode cX4_walkPiece 49 = .ok (.iload 4, 2) := by decide +kernel
theorem dX4_walkPiece_51 : decode cX4_walkPiece 51 = .ok (.aload_n 0, 1) := by decide +kernel
theorem dX4_walkPiece_52 : decode cX4_walkPiece 52 = .ok (.getfield 46, 3) := by decide +kernel
theorem dX4_walkPiece_55 : decode cX4_walkPiece 55 = .ok (.iastore, 1) := by decide +kernel
theorem dX4_walkPiece_56 : decode cX4_walkPiece 56 = .ok (.aload_n 0, 1) := by decide +kernel
theorem dX4_walkPiece_57 : decode cX4_walkPiece 57 = .ok (.getfield 24, 3) := by decide +kernel
theorem dX4_walkPiece_60 : decode cX4_walkPiece 60 = .ok (.iload 4, 2) := by decide +kernel
theorem dX4_walkPiece_62 : decode cX4_walkPiece 62 = .ok (.iconst 0, 1) := by decide +kernel
theorem dX4_walkPiece_63 : decode cX4_walkPiece 63 = .ok (.iastore, 1) := by decide +kernel
theorem dX4_walkPiece_64 : decode cX4_walkPiece 64 = .ok (.iload 4, 2) := by decide +kernel
theorem dX4_walkPiece_66 : decode cX4_walkPiece 66 = .ok (.iconst 2, 1) := by decide +kernel
theorem dX4_walkPiece_67 : decode cX4_walkPiece 67 = .ok (.invokestatic 103, 3) := by decide +kernel
theorem dX4_walkPiece_70 : decode cX4_walkPiece 70 = .ok (.istore_n 2, 1) := by decide +kernel
theorem dX4_walkPiece_71 : decode cX4_walkPiece 71 = .ok (.iinc 3 1, 3) := by decide +kernel
theorem dX4_walkPiece_74 : decode cX4_walkPiece 74 = .ok (.goto (-70), 3) := by decide +kernel
theorem dX4_walkPiece_77 : decode cX4_walkPiece 77 = .ok (.aload_n 0, 1) := by decide +kernel
theorem dX4_walkPiece_78 : decode cX4_walkPiece 78 = .ok (.getfield 27, 3) := by decide +kernel
theorem dX4_walkPiece_81 : decode cX4_walkPiece 81 = .ok (.aload_n 0, 1) := by decide +kernel
theorem dX4_walkPiece_82 : decode cX4_walkPiece 82 = .ok (.getfield 46, 3) := by decide +kernel
theorem dX4_walkPiece_85 : decode cX4_walkPiece 85 = .ok (.iload_n 1, 1) := by decide +kernel
theorem dX4_walkPiece_86 : decode cX4_walkPiece 86 = .ok (.iastore, 1) := by decide +kernel
theorem dX4_walkPiece_87 : decode cX4_walkPiece 87 = .ok (.aload_n 0, 1) := by decide +kernel
theorem dX4_walkPiece_88 : decode cX4_walkPiece 88 = .ok (.dup, 1) := by decide +kernel
theorem dX4_walkPiece_89 : decode cX4_walkPiece 89 = .ok (.getfield 46, 3) := by decide +kernel
theorem dX4_walkPiece_92 : decode cX4_walkPiece 92 = .ok (.iconst 1, 1) := by decide +kernel
theorem dX4_walkPiece_93 : decode cX4_walkPiece 93 = .ok (.iadd, 1) := by decide +kernel
theorem dX4_walkPiece_94 : decode cX4_walkPiece 94 = .ok (.putfield 46, 3) := by decide +kernel
theorem dX4_walkPiece_97 : decode cX4_walkPiece 97 = .ok (.return_, 1) := by decide +kernel
theorem dX4_findSigns_0 : decode cX4_findSigns 0 = .ok (.aload_n 0, 1) := by decide +kernel
theorem dX4_findSigns_1 : decode cX4_findSigns 1 = .ok (.iconst 0, 1) := by decide +kernel
theorem dX4_findSigns_2 : decode cX4_findSigns 2 = .ok (.putfield 117, 3) := by decide +kernel
theorem dX4_findSigns_5 : decode cX4_findSigns 5 = .ok (.iconst 0, 1) := by decide +kernel
theorem dX4_findSigns_6 : decode cX4_findSigns 6 = .ok (.istore_n 1, 1) := by decide +kernel
theorem dX4_findSigns_7 : decode cX4_findSigns 7 = .ok (.iload_n 1, 1) := by decide +kernel
theorem dX4_findSigns_8 : decode cX4_findSigns 8 = .ok (.aload_n 0, 1) := by decide +kernel
theorem dX4_findSigns_9 : decode cX4_findSigns 9 = .ok (.getfield 42, 3) := by decide +kernel
theorem dX4_findSigns_12 : decode cX4_findSigns 12 = .ok (.if_icmp .ge 82, 3) := by decide +kernel
theorem dX4_findSigns_15 : decode cX4_findSigns 15 = .ok (.aload_n 0, 1) := by decide +kernel
theorem dX4_findSigns_16 : decode cX4_findSigns 16 = .ok (.getfield 24, 3) := by decide +kernel
theorem dX4_findSigns_19 : decode cX4_findSigns 19 = .ok (.iconst 4, 1) := by decide +kernel
theorem dX4_findSigns_20 : decode cX4_findSigns 20 = .ok (.iload_n 1, 1) := by decide +kernel
theorem dX4_findSigns_21 : decode cX4_findSigns 21 = .ok (.imul, 1) := by decide +kernel
theorem dX4_findSigns_22 : decode cX4_findSigns 22 = .ok (.iaload, 1) := by decide +kernel
theorem dX4_findSigns_23 : decode cX4_findSigns 23 = .ok (.iconst 1, 1) := by decide +kernel
theorem dX4_findSigns_24 : decode cX4_findSigns 24 = .ok (.if_icmp .ne 7, 3) := by decide +kernel
theorem dX4_findSigns_27 : decode cX4_findSigns 27 = .ok (.iconst 2, 1) := by decide +kernel
theorem dX4_findSigns_28 : decode cX4_findSigns 28 = .ok (.goto 4, 3) := by decide +kernel
theorem dX4_findSigns_31 : decode cX4_findSigns 31 = .ok (.iconst 0, 1) := by decide +kernel
theorem dX4_findSigns_32 : decode cX4_findSigns 32 = .ok (.istore_n 2, 1) := by decide +kernel
theorem dX4_findSigns_33 : decode cX4_findSigns 33 = .ok (.aload_n 0, 1) := by decide +kernel
theorem dX4_findSigns_34 : decode cX4_findSigns 34 = .ok (.getfield 24, 3) := by decide +kernel
theorem dX4_findSigns_37 : decode cX4_findSigns 37 = .ok (.iconst 4, 1) := by decide +kernel
theorem dX4_findSigns_38 : decode cX4_findSigns 38 = .ok (.iload_n 1, 1) := by decide +kernel
theorem dX4_findSigns_39 : decode cX4_findSigns 39 = .ok (.imul, 1) := by decide +kernel
theorem dX4_findSigns_40 : decode cX4_findSigns 40 = .ok (.iconst 1, 1) := by decide +kernel
theorem dX4_findSigns_41 : decode cX4_findSigns 41 = .ok (.iadd, 1) := by decide +kernel
theorem dX4_findSigns_42 : decode cX4_findSigns 42 = .ok (.iaload, 1) := by decide +kernel
theorem dX4_findSigns_43 : decode cX4_findSigns 43 = .ok (.iconst 1, 1) := by decide +kernel
theorem dX4_findSigns_44 : decode cX4_findSigns 44 = .ok (.if_icmp .ne 7, 3) := by decide +kernel
theorem dX4_findSigns_47 : decode cX4_findSigns 47 = .ok (.iconst 3, 1) := by decide +kernel
theorem dX4_findSigns_48 : decode cX4_findSigns 48 = .ok (.goto 4, 3) := by decide +kernel
theorem dX4_findSigns_51 : decode cX4_findSigns 51 = .ok (.iconst 1, 1) := by decide +kernel
theorem dX4_findSigns_52 : decode cX4_findSigns 52 = .ok (.istore_n 3, 1) := by decide +kernel
theorem dX4_findSigns_53 : decode cX4_findSigns 53 = .ok (.aload_n 0, 1) := by decide +kernel
theorem dX4_findSigns_54 : decode cX4_findSigns 54 = .ok (.getfield 30, 3) := by decide +kernel
theorem dX4_findSigns_57 : decode cX4_findSigns 57 = .ok (.iload_n 1, 1) := by decide +kernel
theorem dX4_findSigns_58 : decode cX4_findSigns 58 = .ok (.iload_n 3, 1) := by decide +kernel
theorem dX4_findSigns_59 : decode cX4_findSigns 59 = .ok (.iload_n 2, 1) := by decide +kernel
theorem dX4_findSigns_60 : decode cX4_findSigns 60 = .ok (.iconst 3, 1) := by decide +kernel
theorem dX4_findSigns_61 : decode cX4_findSigns 61 = .ok (.iadd, 1) := by decide +kernel
theorem dX4_findSigns_62 : decode cX4_findSigns 62 = .ok (.iconst 3, 1) := by decide +kernel
theorem dX4_findSigns_63 : decode cX4_findSigns 63 = .ok (.iand, 1) := by decide +kernel
theorem dX4_findSigns_64 : decode cX4_findSigns 64 = .ok (.if_icmp .ne 7, 3) := by decide +kernel
theorem dX4_findSigns_67 : decode cX4_findSigns 67 = .ok (.iconst 1, 1) := by decide +kernel
theorem dX4_findSigns_68 : decode cX4_findSigns 68 = .ok (.goto 4, 3) := by decide +kernel
theorem dX4_findSigns_71 : decode cX4_findSigns 71 = .ok (.iconst (-1), 1) := by decide +kernel
theorem dX4_findSigns_72 : decode cX4_findSigns 72 = .ok (.iastore, 1) := by decide +kernel
theorem dX4_findSigns_73 : decode cX4_findSigns 73 = .ok (.aload_n 0, 1) := by decide +kernel
theorem dX4_findSigns_74 : decode cX4_findSigns 74 = .ok (.dup, 1) := by decide +kernel
theorem dX4_findSigns_75 : decode cX4_findSigns 75 = .ok (.getfield 117, 3) := by decide +kernel
theorem dX4_findSigns_78 : decode cX4_findSigns 78 = .ok (.aload_n 0, 1) := by decide +kernel
theorem dX4_findSigns_79 : decode cX4_findSigns 79 = .ok (.getfield 30, 3) := by decide +kernel
theorem dX4_findSigns_82 : decode cX4_findSigns 82 = .ok (.iload_n 1, 1) := by decide +kernel
theorem dX4_findSigns_83 : decode cX4_findSigns 83 = .ok (.iaload, 1) := by decide +kernel
theorem dX4_findSigns_84 : decode cX4_findSigns 84 = .ok (.iadd, 1) := by decide +kernel
theorem dX4_findSigns_85 : decode cX4_findSigns 85 = .ok (.putfield 117, 3) := by decide +kernel
theorem dX4_findSigns_88 : decode cX4_findSigns 88 = .ok (.iinc 1 1, 3) := by decide +kernel
theorem dX4_findSigns_91 : decode cX4_findSigns 91 = .ok (.goto (-84), 3) := by decide +kernel
theorem dX4_findSigns_94 : decode cX4_findSigns 94 = .ok (.return_, 1) := by decide +kernel
theorem dX4_linkOf_0 : decode cX4_linkOf 0 = .ok (.iconst 0, 1) := by decide +kernel
theorem dX4_linkOf_1 : decode cX4_linkOf 1 = .ok (.istore_n 3, 1) := by decide +kernel
theorem dX4_linkOf_2 : decode cX4_linkOf 2 = .ok (.iconst 0, 1) := by decide +kernel
theorem dX4_linkOf_3 : decode cX4_linkOf 3 = .ok (.istore 4, 2) := by decide +kernel
theorem dX4_linkOf_5 : decode cX4_linkOf 5 = .ok (.iload 4, 2) := by decide +kernel
theorem dX4_linkOf_7 : decode cX4_linkOf 7 = .ok (.aload_n 0, 1) := by decide +kernel
theorem dX4_linkOf_8 : decode cX4_linkOf 8 = .ok (.getfield 42, 3) := by decide +kernel
theorem dX4_linkOf_11 : decode cX4_linkOf 11 = .ok (.if_icmp .ge 67, 3) := by decide +kernel
theorem dX4_linkOf_14 : decode cX4_linkOf 14 = .ok (.aload_n 0, 1) := by decide +kernel
theorem dX4_linkOf_15 : decode cX4_linkOf 15 = .ok (.getfield 21, 3) := by decide +kernel
theorem dX4_linkOf_18 : decode cX4_linkOf 18 = .ok (.iconst 4, 1) := by decide +kernel
theorem dX4_linkOf_19 : decode cX4_linkOf 19 = .ok (.iload 4, 2) := by decide +kernel
theorem dX4_linkOf_21 : decode cX4_linkOf 21 = .ok (.imul, 1) := by decide +kernel
theorem dX4_linkOf_22 : decode cX4_linkOf 22 = .ok (.iaload, 1) := by decide +kernel
theorem dX4_linkOf_23 : decode cX4_linkOf 23 = .ok (.istore 5, 2) := by decide +kernel
theorem dX4_linkOf_25 : decode cX4_linkOf 25 = .ok (.aload_n 0, 1) := by decide +kernel
theorem dX4_linkOf_26 : decode cX4_linkOf 26 = .ok (.getfield 21, 3) := by decide +kernel
theorem dX4_linkOf_29 : decode cX4_linkOf 29 = .ok (.iconst 4, 1) := by decide +kernel
theorem dX4_linkOf_30 : decode cX4_linkOf 30 = .ok (.iload 4, 2) := by decide +kernel
theorem dX4_linkOf_32 : decode cX4_linkOf 32 = .ok (.imul, 1) := by decide +kernel
theorem dX4_linkOf_33 : decode cX4_linkOf 33 = .ok (.iconst 1, 1) := by decide +kernel
theorem dX4_linkOf_34 : decode cX4_linkOf 34 = .ok (.iadd, 1) := by decide +kernel
theorem dX4_linkOf_35 : decode cX4_linkOf 35 = .ok (.iaload, 1) := by decide +kernel
theorem dX4_linkOf_36 : decode cX4_linkOf 36 = .ok (.istore 6, 2) := by decide +kernel
theorem dX4_linkOf_38 : decode cX4_linkOf 38 = .ok (.iload 5, 2) := by decide +kernel
theorem dX4_linkOf_40 : decode cX4_linkOf 40 = .ok (.iload_n 1, 1) := by decide +kernel
theorem dX4_linkOf_41 : decode cX4_linkOf 41 = .ok (.if_icmp .ne 9, 3) := by decide +kernel
theorem dX4_linkOf_44 : decode cX4_linkOf 44 = .ok (.iload 6, 2) := by decide +kernel
theorem dX4_linkOf_46 : decode cX4_linkOf 46 = .ok (.iload_n 2, 1) := by decide +kernel
theorem dX4_linkOf_47 : decode cX4_linkOf 47 = .ok (.if_icmp .eq 15, 3) := by decide +kernel
theorem dX4_linkOf_50 : decode cX4_linkOf 50 = .ok (.iload 5, 2) := by decide +kernel
theorem dX4_linkOf_52 : decode cX4_linkOf 52 = .ok (.iload_n 2, 1) := by decide +kernel
theorem dX4_linkOf_53 : decode cX4_linkOf 53 = .ok (.if_icmp .ne 19, 3) := by decide +kernel
theorem dX4_linkOf_56 : decode cX4_linkOf 56 = .ok (.iload 6, 2) := by decide +kernel
theorem dX4_linkOf_58 : decode cX4_linkOf 58 = .ok (.iload_n 1, 1) := by decide +kernel
theorem dX4_linkOf_59 : decode cX4_linkOf 59 = .ok (.if_icmp .ne 13, 3) := by decide +kernel
theorem dX4_linkOf_62 : decode cX4_linkOf 62 = .ok (.iload_n 3, 1) := by decide +kernel
theorem dX4_linkOf_63 : decode cX4_linkOf 63 = .ok (.aload_n 0, 1) := by decide +kernel
theorem dX4_linkOf_64 : decode cX4_linkOf 64 = .ok (.getfield 30, 3) := by decide +kernel
theorem dX4_linkOf_67 : decode cX4_linkOf 67 = .ok (.iload 4, 2) := by decide +kernel
theorem dX4_linkOf_69 : decode cX4_linkOf 69 = .ok (.iaload, 1) := by decide +kernel
theorem dX4_linkOf_70 : decode cX4_linkOf 70 = .ok (.iadd, 1) := by decide +kernel
theorem dX4_linkOf_71 : decode cX4_linkOf 71 = .ok (.istore_n 3, 1) := by decide +kernel
theorem dX4_linkOf_72 : decode cX4_linkOf 72 = .ok (.iinc 4 1, 3) := by decide +kernel
theorem dX4_linkOf_75 : decode cX4_linkOf 75 = .ok (.goto (-70), 3) := by decide +kernel
theorem dX4_linkOf_78 : decode cX4_linkOf 78 = .ok (.iload_n 3, 1) := by decide +kernel
theorem dX4_linkOf_79 : decode cX4_linkOf 79 = .ok (.iconst 2, 1) := by decide +kernel
theorem dX4_linkOf_80 : decode cX4_linkOf 80 = .ok (.idiv, 1) := by decide +kernel
theorem dX4_linkOf_81 : decode cX4_linkOf 81 = .ok (.ireturn, 1) := by decide +kernel
theorem dX4_spell_0 : decode cX4_spell 0 = .ok (.aload_n 1, 1) := by decide +kernel
theorem dX4_spell_1 : decode cX4_spell 1 = .ok (.invokevirtual 120, 3) := by decide +kernel
theorem dX4_spell_4 : decode cX4_spell 4 = .ok (.iconst 0, 1) := by decide +kernel
theorem dX4_spell_5 : decode cX4_spell 5 = .ok (.istore_n 2, 1) := by decide +kernel
theorem dX4_spell_6 : decode cX4_spell 6 = .ok (.iload_n 2, 1) := by decide +kernel
theorem dX4_spell_7 : decode cX4_spell 7 = .ok (.aload_n 0, 1) := by decide +kernel
theorem dX4_spell_8 : decode cX4_spell 8 = .ok (.getfield 46, 3) := by decide +kernel
theorem dX4_spell_11 : decode cX4_spell 11 = .ok (.if_icmp .ge 106, 3) := by decide +kernel
theorem dX4_spell_14 : decode cX4_spell 14 = .ok (.aload_n 0, 1) := by decide +kernel
theorem dX4_spell_15 : decode cX4_spell 15 = .ok (.getfield 27, 3) := by decide +kernel
theorem dX4_spell_18 : decode cX4_spell 18 = .ok (.iload_n 2, 1) := by decide +kernel
theorem dX4_spell_19 : decode cX4_spell 19 = .ok (.iaload, 1) := by decide +kernel
theorem dX4_spell_20 : decode cX4_spell 20 = .ok (.istore_n 3, 1) := by decide +kernel
theorem dX4_spell_21 : decode cX4_spell 21 = .ok (.iconst 0, 1) := by decide +kernel
theorem dX4_spell_22 : decode cX4_spell 22 = .ok (.istore 4, 2) := by decide +kernel
theorem dX4_spell_24 : decode cX4_spell 24 = .ok (.iload 4, 2) := by decide +kernel
theorem dX4_spell_26 : decode cX4_spell 26 = .ok (.sipush 160, 3) := by decide +kernel
theorem dX4_spell_29 : decode cX4_spell 29 = .ok (.if_icmp .ge 76, 3) := by decide +kernel
theorem dX4_spell_32 : decode cX4_spell 32 = .ok (.aload_n 0, 1) := by decide +kernel
theorem dX4_spell_33 : decode cX4_spell 33 = .ok (.getfield 9, 3) := by decide +kernel
theorem dX4_spell_36 : decode cX4_spell 36 = .ok (.iload_n 3, 1) := by decide +kernel
theorem dX4_spell_37 : decode cX4_spell 37 = .ok (.iaload, 1) := by decide +kernel
theorem dX4_spell_38 : decode cX4_spell 38 = .ok (.istore 5, 2) := by decide +kernel
theorem dX4_spell_40 : decode cX4_spell 40 = .ok (.iload 5, 2) := by decide +kernel
theorem dX4_spell_42 : decode cX4_spell 42 = .ok (.iconst 2, 1) := by decide +kernel
theorem dX4_spell_43 : decode cX4_spell 43 = .ok (.ishr, 1) := by decide +kernel
theorem dX4_spell_44 : decode cX4_spell 44 = .ok (.istore 6, 2) := by decide +kernel
theorem dX4_spell_46 : decode cX4_spell 46 = .ok (.aload_n 1, 1) := by decide +kernel
theorem dX4_spell_47 : decode cX4_spell 47 = .ok (.iconst 4, 1) := by decide +kernel
theorem dX4_spell_48 : decode cX4_spell 48 = .ok (.iload 6, 2) := by decide +kernel
theorem dX4_spell_50 : decode cX4_spell 50 = .ok (.imul, 1) := by decide +kernel
theorem dX4_spell_51 : decode cX4_spell 51 = .ok (.iconst 2, 1) := by decide +kernel
theorem dX4_spell_52 : decode cX4_spell 52 = .ok (.iload 5, 2) := by decide +kernel
theorem dX4_spell_54 : decode cX4_spell 54 = .ok (.iconst 1, 1) := by decide +kernel
theorem dX4_spell_55 : decode cX4_spell 55 = .ok (.iand, 1) := by decide +kernel
theorem dX4_spell_56 : decode cX4_spell 56 = .ok (.imul, 1) := by decide +kernel
theorem dX4_spell_57 : decode cX4_spell 57 = .ok (.iadd, 1) := by decide +kernel
theorem dX4_spell_58 : decode cX4_spell 58 = .ok (.aload_n 0, 1) := by decide +kernel
theorem dX4_spell_59 : decode cX4_spell 59 = .ok (.getfield 30, 3) := by decide +kernel
theorem dX4_spell_62 : decode cX4_spell 62 = .ok (.iload 6, 2) := by decide +kernel
theorem dX4_spell_64 : decode cX4_spell 64 = .ok (.iaload, 1) := by decide +kernel
theorem dX4_spell_65 : decode cX4_spell 65 = .ok (.iconst 1, 1) := by decide +kernel
theorem dX4_spell_66 : decode cX4_spell 66 = .ok (.if_icmp .ne 7, 3) := by decide +kernel
theorem dX4_spell_69 : decode cX4_spell 69 = .ok (.iconst 1, 1) := by decide +kernel
theorem dX4_spell_70 : decode cX4_spell 70 = .ok (.goto 4, 3) := by decide +kernel
theorem dX4_spell_73 : decode cX4_spell 73 = .ok (.iconst 0, 1) := by decide +kernel
theorem dX4_spell_74 : decode cX4_spell 74 = .ok (.iadd, 1) := by decide +kernel
theorem dX4_spell_75 : decode cX4_spell 75 = .ok (.invokevirtual 125, 3) := by decide +kernel
theorem dX4_spell_78 : decode cX4_spell 78 = .ok (.pop, 1) := by decide +kernel
theorem dX4_spell_79 : decode cX4_spell 79 = .ok (.iload 5, 2) := by decide +kernel
theorem dX4_spell_81 : decode cX4_spell 81 = .ok (.iconst 2, 1) := by decide +kernel
theorem dX4_spell_82 : decode cX4_spell 82 = .ok (.invokestatic 103, 3) := by decide +kernel
theorem dX4_spell_85 : decode cX4_spell 85 = .ok (.istore_n 3, 1) := by decide +kernel
theorem dX4_spell_86 : decode cX4_spell 86 = .ok (.iload_n 3, 1) := by decide +kernel
theorem dX4_spell_87 : decode cX4_spell 87 = .ok (.aload_n 0, 1) := by decide +kernel
theorem dX4_spell_88 : decode cX4_spell 88 = .ok (.getfield 27, 3) := by decide +kernel
theorem dX4_spell_91 : decode cX4_spell 91 = .ok (.iload_n 2, 1) := by decide +kernel
theorem dX4_spell_92 : decode cX4_spell 92 = .ok (.iaload, 1) := by decide +kernel
theorem dX4_spell_93 : decode cX4_spell 93 = .ok (.if_icmp .ne 6, 3) := by decide +kernel
theorem dX4_spell_96 : decode cX4_spell 96 = .ok (.goto 9, 3) := by decide +kernel
theorem dX4_spell_99 : decode cX4_spell 99 = .ok (.iinc 4 1, 3) := by decide +kernel
theorem dX4_spell_102 : decode cX4_spell 102 = .ok (.goto (-78), 3) := by decide +kernel
theorem dX4_spell_105 : decode cX4_spell 105 = .ok (.aload_n 1, 1) := by decide +kernel
theorem dX4_spell_106 : decode cX4_spell 106 = .ok (.iconst (-1), 1) := by decide +kernel
theorem dX4_spell_107 : decode cX4_spell 107 = .ok (.invokevirtual 125, 3) := by decide +kernel
theorem dX4_spell_110 : decode cX4_spell 110 = .ok (.pop, 1) := by decide +kernel
theorem dX4_spell_111 : decode cX4_spell 111 = .ok (.iinc 2 1, 3) := by decide +kernel
theorem dX4_spell_114 : decode cX4_spell 114 = .ok (.goto (-108), 3) := by decide +kernel
theorem dX4_spell_117 : decode cX4_spell 117 = .ok (.aload_n 1, 1) := by decide +kernel
theorem dX4_spell_118 : decode cX4_spell 118 = .ok (.bipush (-2), 2) := by decide +kernel
theorem dX4_spell_120 : decode cX4_spell 120 = .ok (.aload_n 0, 1) := by decide +kernel
theorem dX4_spell_121 : decode cX4_spell 121 = .ok (.getfield 49, 3) := by decide +kernel
theorem dX4_spell_124 : decode cX4_spell 124 = .ok (.isub, 1) := by decide +kernel
theorem dX4_spell_125 : decode cX4_spell 125 = .ok (.invokevirtual 125, 3) := by decide +kernel
theorem dX4_spell_128 : decode cX4_spell 128 = .ok (.pop, 1) := by decide +kernel
theorem dX4_spell_129 : decode cX4_spell 129 = .ok (.return_, 1) := by decide +kernel
theorem dX4_likenessMark_0 : decode cX4_likenessMark 0 = .ok (.iconst 0, 1) := by decide +kernel
theorem dX4_likenessMark_1 : decode cX4_likenessMark 1 = .ok (.istore_n 1, 1) := by decide +kernel
theorem dX4_likenessMark_2 : decode cX4_likenessMark 2 = .ok (.iconst 0, 1) := by decide +kernel
theorem dX4_likenessMark_3 : decode cX4_likenessMark 3 = .ok (.istore_n 2, 1) := by decide +kernel
theorem dX4_likenessMark_4 : decode cX4_likenessMark 4 = .ok (.iload_n 2, 1) := by decide +kernel
theorem dX4_likenessMark_5 : decode cX4_likenessMark 5 = .ok (.iconst 4, 1) := by decide +kernel
theorem dX4_likenessMark_6 : decode cX4_likenessMark 6 = .ok (.aload_n 0, 1) := by decide +kernel
theorem dX4_likenessMark_7 : decode cX4_likenessMark 7 = .ok (.getfield 42, 3) := by decide +kernel
theorem dX4_likenessMark_10 : decode cX4_likenessMark 10 = .ok (.imul, 1) := by decide +kernel
theorem dX4_likenessMark_11 : decode cX4_likenessMark 11 = .ok (.if_icmp .ge 49, 3) := by decide +kernel
theorem dX4_likenessMark_14 : decode cX4_likenessMark 14 = .ok (.iconst 4, 1) := by decide +kernel
theorem dX4_likenessMark_15 : decode cX4_likenessMark 15 = .ok (.aload_n 0, 1) := by decide +kernel
theorem dX4_likenessMark_16 : decode cX4_likenessMark 16 = .ok (.getfield 18, 3) := by decide +kernel
theorem dX4_likenessMark_19 : decode cX4_likenessMark 19 = .ok (.aload_n 0, 1) := by decide +kernel
theorem dX4_likenessMark_20 : decode cX4_likenessMark 20 = .ok (.getfield 15, 3) := by decide +kernel
theorem dX4_likenessMark_23 : decode cX4_likenessMark 23 = .ok (.iload_n 2, 1) := by decide +kernel
theorem dX4_likenessMark_24 : decode cX4_likenessMark 24 = .ok (.iaload, 1) := by decide +kernel
theorem dX4_likenessMark_25 : decode cX4_likenessMark 25 = .ok (.iaload, 1) := by decide +kernel
theorem dX4_likenessMark_26 : decode cX4_likenessMark 26 = .ok (.imul, 1) := by decide +kernel
theorem dX4_likenessMark_27 : decode cX4_likenessMark 27 = .ok (.iconst 2, 1) := by decide +kernel
theorem dX4_likenessMark_28 : decode cX4_likenessMark 28 = .ok (.iload_n 2, 1) := by decide +kernel
theorem dX4_likenessMark_29 : decode cX4_likenessMark 29 = .ok (.iconst 1, 1) := by decide +kernel
theorem dX4_likenessMark_30 : decode cX4_likenessMark 30 = .ok (.iand, 1) := by decide +kernel
theorem dX4_likenessMark_31 : decode cX4_likenessMark 31 = .ok (.imul, 1) := by decide +kernel
theorem dX4_likenessMark_32 : decode cX4_likenessMark 32 = .ok (.iadd, 1) := by decide +kernel
theorem dX4_likenessMark_33 : decode cX4_likenessMark 33 = .ok (.aload_n 0, 1) := by decide +kernel
theorem dX4_likenessMark_34 : decode cX4_likenessMark 34 = .ok (.getfield 9, 3) := by decide +kernel
theorem dX4_likenessMark_37 : decode cX4_likenessMark 37 = .ok (.iload_n 2, 1) := by decide +kernel
theorem dX4_likenessMark_38 : decode cX4_likenessMark 38 = .ok (.iaload, 1) := by decide +kernel
theorem dX4_likenessMark_39 : decode cX4_likenessMark 39 = .ok (.iconst 1, 1) := by decide +kernel
theorem dX4_likenessMark_40 : decode cX4_likenessMark 40 = .ok (.iand, 1) := by decide +kernel
theorem dX4_likenessMark_41 : decode cX4_likenessMark 41 = .ok (.iadd, 1) := by decide +kernel
theorem dX4_likenessMark_42 : decode cX4_likenessMark 42 = .ok (.istore_n 3, 1) := by decide +kernel
theorem dX4_likenessMark_43 : decode cX4_likenessMark 43 = .ok (.iload_n 1, 1) := by decide +kernel
theorem dX4_likenessMark_44 : decode cX4_likenessMark 44 = .ok (.iload_n 3, 1) := by decide +kernel
theorem dX4_likenessMark_45 : decode cX4_likenessMark 45 = .ok (.iload_n 3, 1) := by decide +kernel
theorem dX4_likenessMark_46 : decode cX4_likenessMark 46 = .ok (.imul, 1) := by decide +kernel
theorem dX4_likenessMark_47 : decode cX4_likenessMark 47 = .ok (.bipush 7, 2) := by decide +kernel
theorem dX4_likenessMark_49 : decode cX4_likenessMark 49 = .ok (.iadd, 1) := by decide +kernel
theorem dX4_likenessMark_50 : decode cX4_likenessMark 50 = .ok (.iload_n 3, 1) := by decide +kernel
theorem dX4_likenessMark_51 : decode cX4_likenessMark 51 = .ok (.imul, 1) := by decide +kernel
theorem dX4_likenessMark_52 : decode cX4_likenessMark 52 = .ok (.iadd, 1) := by decide +kernel
theorem dX4_likenessMark_53 : decode cX4_likenessMark 53 = .ok (.istore_n 1, 1) := by decide +kernel
theorem dX4_likenessMark_54 : decode cX4_likenessMark 54 = .ok (.iinc 2 1, 3) := by decide +kernel
theorem dX4_likenessMark_57 : decode cX4_likenessMark 57 = .ok (.goto (-53), 3) := by decide +kernel
theorem dX4_likenessMark_60 : decode cX4_likenessMark 60 = .ok (.iload_n 1, 1) := by decide +kernel
theorem dX4_likenessMark_61 : decode cX4_likenessMark 61 = .ok (.ireturn, 1) := by decide +kernel
theorem dX6_init_0 : decode cX6_init 0 = .ok (.aload_n 0, 1) := by decide +kernel
theorem dX6_init_1 : decode cX6_init 1 = .ok (.invokespecial 1, 3) := by decide +kernel
theorem dX6_init_4 : decode cX6_init 4 = .ok (.aload_n 0, 1) := by decide +kernel
theorem dX6_init_5 : decode cX6_init 5 = .ok (.iload_n 1, 1) := by decide +kernel
theorem dX6_init_6 : decode cX6_init 6 = .ok (.iconst 0, 1) := by decide +kernel
theorem dX6_init_7 : decode cX6_init 7 = .ok (.invokestatic 7, 3) := by decide +kernel
theorem dX6_init_10 : decode cX6_init 10 = .ok (.newarray .int, 2) := by decide +kernel
theorem dX6_init_12 : decode cX6_init 12 = .ok (.putfield 13, 3) := by decide +kernel
theorem dX6_init_15 : decode cX6_init 15 = .ok (.return_, 1) := by decide +kernel
theorem dX6_has_0 : decode cX6_has 0 = .ok (.iload_n 1, 1) := by decide +kernel
theorem dX6_has_1 : decode cX6_has 1 = .ok (.ifCond .lt 15, 3) := by decide +kernel
theorem dX6_has_4 : decode cX6_has 4 = .ok (.iload_n 1, 1) := by decide +kernel
theorem dX6_has_5 : decode cX6_has 5 = .ok (.aload_n 0, 1) := by decide +kernel
theorem dX6_has_6 : decode cX6_has 6 = .ok (.getfield 19, 3) := by decide +kernel
theorem dX6_has_9 : decode cX6_has 9 = .ok (.if_icmp .ge 7, 3) := by decide +kernel
theorem dX6_has_12 : decode cX6_has 12 = .ok (.iconst 1, 1) := by decide +kernel
theorem dX6_has_13 : decode cX6_has 13 = .ok (.goto 4, 3) := by decide +kernel
theorem dX6_has_16 : decode cX6_has 16 = .ok (.iconst 0, 1) := by decide +kernel
theorem dX6_has_17 : decode cX6_has 17 = .ok (.ireturn, 1) := by decide +kernel
theorem dX6_add_0 : decode cX6_add 0 = .ok (.aload_n 0, 1) := by decide +kernel
theorem dX6_add_1 : decode cX6_add 1 = .ok (.getfield 19, 3) := by decide +kernel
theorem dX6_add_4 : decode cX6_add 4 = .ok (.aload_n 0, 1) := by decide +kernel
theorem dX6_add_5 : decode cX6_add 5 = .ok (.getfield 13, 3) := by decide +kernel
theorem dX6_add_8 : decode cX6_add 8 = .ok (.arraylength, 1) := by decide +kernel
theorem dX6_add_9 : decode cX6_add 9 = .ok (.if_icmp .lt 5, 3) := by decide +kernel
theorem dX6_add_12 : decode cX6_add 12 = .ok (.iconst 0, 1) := by decide +kernel
theorem dX6_add_13 : decode cX6_add 13 = .ok (.ireturn, 1) := by decide +kernel
theorem dX6_add_14 : decode cX6_add 14 = .ok (.aload_n 0, 1) := by decide +kernel
theorem dX6_add_15 : decode cX6_add 15 = .ok (.getfield 13, 3) := by decide +kernel
theorem dX6_add_18 : decode cX6_add 18 = .ok (.aload_n 0, 1) := by decide +kernel
theorem dX6_add_19 : decode cX6_add 19 = .ok (.getfield 19, 3) := by decide +kernel
theorem dX6_add_22 : decode cX6_add 22 = .ok (.iload_n 1, 1) := by decide +kernel
theorem dX6_add_23 : decode cX6_add 23 = .ok (.iastore, 1) := by decide +kernel
theorem dX6_add_24 : decode cX6_add 24 = .ok (.aload_n 0, 1) := by decide +kernel
theorem dX6_add_25 : decode cX6_add 25 = .ok (.dup, 1) := by decide +kernel
theorem dX6_add_26 : decode cX6_add 26 = .ok (.getfield 19, 3) := by decide +kernel
theorem dX6_add_29 : decode cX6_add 29 = .ok (.iconst 1, 1) := by decide +kernel
theorem dX6_add_30 : decode cX6_add 30 = .ok (.iadd, 1) := by decide +kernel
theorem dX6_add_31 : decode cX6_add 31 = .ok (.putfield 19, 3) := by decide +kernel
theorem dX6_add_34 : decode cX6_add 34 = .ok (.iconst 1, 1) := by decide +kernel
theorem dX6_add_35 : decode cX6_add 35 = .ok (.ireturn, 1) := by decide +kernel
theorem dX6_empty_0 : decode cX6_empty 0 = .ok (.aload_n 0, 1) := by decide +kernel
theorem dX6_empty_1 : decode cX6_empty 1 = .ok (.iconst 0, 1) := by decide +kernel
theorem dX6_empty_2 : decode cX6_empty 2 = .ok (.putfield 19, 3) := by decide +kernel
theorem dX6_empty_5 : decode cX6_empty 5 = .ok (.return_, 1) := by decide +kernel
theorem dX6_holds_0 : decode cX6_holds 0 = .ok (.iconst 0, 1) := by decide +kernel
theorem dX6_holds_1 : decode cX6_holds 1 = .ok (.istore_n 2, 1) := by decide +kernel
theorem dX6_holds_2 : decode cX6_holds 2 = .ok (.iload_n 2, 1) := by decide +kernel
theorem dX6_holds_3 : decode cX6_holds 3 = .ok (.aload_n 0, 1) := by decide +kernel
theorem dX6_holds_4 : decode cX6_holds 4 = .ok (.getfield 19, 3) := by decide +kernel
theorem dX6_holds_7 : decode cX6_holds 7 = .ok (.if_icmp .ge 21, 3) := by decide +kernel
theorem dX6_holds_10 : decode cX6_holds 10 = .ok (.aload_n 0, 1) := by decide +kernel
theorem dX6_holds_11 : decode cX6_holds 11 = .ok (.getfield 13, 3) := by decide +kernel
theorem dX6_holds_14 : decode cX6_holds 14 = .ok (.iload_n 2, 1) := by decide +kernel
theorem dX6_holds_15 : decode cX6_holds 15 = .ok (.iaload, 1) := by decide +kernel
theorem dX6_holds_16 : decode cX6_holds 16 = .ok (.iload_n 1, 1) := by decide +kernel
theorem dX6_holds_17 : decode cX6_holds 17 = .ok (.if_icmp .ne 5, 3) := by decide +kernel
theorem dX6_holds_20 : decode cX6_holds 20 = .ok (.iconst 1, 1) := by decide +kernel
theorem dX6_holds_21 : decode cX6_holds 21 = .ok (.ireturn, 1) := by decide +kernel
theorem dX6_holds_22 : decode cX6_holds 22 = .ok (.iinc 2 1, 3) := by decide +kernel
theorem dX6_holds_25 : decode cX6_holds 25 = .ok (.goto (-23), 3) := by decide +kernel
theorem dX6_holds_28 : decode cX6_holds 28 = .ok (.iconst 0, 1) := by decide +kernel
theorem dX6_holds_29 : decode cX6_holds 29 = .ok (.ireturn, 1) := by decide +kernel
theorem dX6_reverse_0 : decode cX6_reverse 0 = .ok (.iconst 0, 1) := by decide +kernel
theorem dX6_reverse_1 : decode cX6_reverse 1 = .ok (.istore_n 1, 1) := by decide +kernel
theorem dX6_reverse_2 : decode cX6_reverse 2 = .ok (.iload_n 1, 1) := by decide +kernel
theorem dX6_reverse_3 : decode cX6_reverse 3 = .ok (.aload_n 0, 1) := by decide +kernel
theorem dX6_reverse_4 : decode cX6_reverse 4 = .ok (.getfield 19, 3) := by decide +kernel
theorem dX6_reverse_7 : decode cX6_reverse 7 = .ok (.iconst 2, 1) := by decide +kernel
theorem dX6_reverse_8 : decode cX6_reverse 8 = .ok (.idiv, 1) := by decide +kernel
theorem dX6_reverse_9 : decode cX6_reverse 9 = .ok (.if_icmp .ge 49, 3) := by decide +kernel
theorem dX6_reverse_12 : decode cX6_reverse 12 = .ok (.aload_n 0, 1) := by decide +kernel
theorem dX6_reverse_13 : decode cX6_reverse 13 = .ok (.getfield 13, 3) := by decide +kernel
theorem dX6_reverse_16 : decode cX6_reverse 16 = .ok (.iload_n 1, 1) := by decide +kernel
theorem dX6_reverse_17 : decode cX6_reverse 17 = .ok (.iaload, 1) := by decide +kernel
theorem dX6_reverse_18 : decode cX6_reverse 18 = .ok (.istore_n 2, 1) := by decide +kernel
theorem dX6_reverse_19 : decode cX6_reverse 19 = .ok (.aload_n 0, 1) := by decide +kernel
theorem dX6_reverse_20 : decode cX6_reverse 20 = .ok (.getfield 13, 3) := by decide +kernel
theorem dX6_reverse_23 : decode cX6_reverse 23 = .ok (.iload_n 1, 1) := by decide +kernel
theorem dX6_reverse_24 : decode cX6_reverse 24 = .ok (.aload_n 0, 1) := by decide +kernel
theorem dX6_reverse_25 : decode cX6_reverse 25 = .ok (.getfield 13, 3) := by decide +kernel
theorem dX6_reverse_28 : decode cX6_reverse 28 = .ok (.aload_n 0, 1) := by decide +kernel
theorem dX6_reverse_29 : decode cX6_reverse 29 = .ok (.getfield 19, 3) := by decide +kernel
theorem dX6_reverse_32 : decode cX6_reverse 32 = .ok (.iconst 1, 1) := by decide +kernel
theorem dX6_reverse_33 : decode cX6_reverse 33 = .ok (.isub, 1) := by decide +kernel
theorem dX6_reverse_34 : decode cX6_reverse 34 = .ok (.iload_n 1, 1) := by decide +kernel
theorem dX6_reverse_35 : decode cX6_reverse 35 = .ok (.isub, 1) := by decide +kernel
theorem dX6_reverse_36 : decode cX6_reverse 36 = .ok (.iaload, 1) := by decide +kernel
theorem dX6_reverse_37 : decode cX6_reverse 37 = .ok (.iastore, 1) := by decide +kernel
theorem dX6_reverse_38 : decode cX6_reverse 38 = .ok (.aload_n 0, 1) := by decide +kernel
theorem dX6_reverse_39 : decode cX6_reverse 39 = .ok (.getfield 13, 3) := by decide +kernel
theorem dX6_reverse_42 : decode cX6_reverse 42 = .ok (.aload_n 0, 1) := by decide +kernel
theorem dX6_reverse_43 : decode cX6_reverse 43 = .ok (.getfield 19, 3) := by decide +kernel
theorem dX6_reverse_46 : decode cX6_reverse 46 = .ok (.iconst 1, 1) := by decide +kernel
theorem dX6_reverse_47 : decode cX6_reverse 47 = .ok (.isub, 1) := by decide +kernel
theorem dX6_reverse_48 : decode cX6_reverse 48 = .ok (.iload_n 1, 1) := by decide +kernel
theorem dX6_reverse_49 : decode cX6_reverse 49 = .ok (.isub, 1) := by decide +kernel
theorem dX6_reverse_50 : decode cX6_reverse 50 = .ok (.iload_n 2, 1) := by decide +kernel
theorem dX6_reverse_51 : decode cX6_reverse 51 = .ok (.iastore, 1) := by decide +kernel
theorem dX6_reverse_52 : decode cX6_reverse 52 = .ok (.iinc 1 1, 3) := by decide +kernel
theorem dX6_reverse_55 : decode cX6_reverse 55 = .ok (.goto (-53), 3) := by decide +kernel
theorem dX6_reverse_58 : decode cX6_reverse 58 = .ok (.return_, 1) := by decide +kernel
theorem dX7_init_0 : decode cX7_init 0 = .ok (.aload_n 0, 1) := by decide +kernel
theorem dX7_init_1 : decode cX7_init 1 = .ok (.invokespecial 3, 3) := by decide +kernel
theorem dX7_init_4 : decode cX7_init 4 = .ok (.aload_n 0, 1) := by decide +kernel
theorem dX7_init_5 : decode cX7_init 5 = .ok (.bipush 40, 2) := by decide +kernel
theorem dX7_init_7 : decode cX7_init 7 = .ok (.newarray .int, 2) := by decide +kernel
theorem dX7_init_9 : decode cX7_init 9 = .ok (.putfield 9, 3) := by decide +kernel
theorem dX7_init_12 : decode cX7_init 12 = .ok (.aload_n 0, 1) := by decide +kernel
theorem dX7_init_13 : decode cX7_init 13 = .ok (.sipush 160, 3) := by decide +kernel
theorem dX7_init_16 : decode cX7_init 16 = .ok (.newarray .int, 2) := by decide +kernel
theorem dX7_init_18 : decode cX7_init 18 = .ok (.putfield 15, 3) := by decide +kernel
theorem dX7_init_21 : decode cX7_init 21 = .ok (.aload_n 0, 1) := by decide +kernel
theorem dX7_init_22 : decode cX7_init 22 = .ok (.getfield 15, 3) := by decide +kernel
theorem dX7_init_25 : decode cX7_init 25 = .ok (.iconst (-1), 1) := by decide +kernel
theorem dX7_init_26 : decode cX7_init 26 = .ok (.invokestatic 18, 3) := by decide +kernel
theorem dX7_init_29 : decode cX7_init 29 = .ok (.return_, 1) := by decide +kernel
theorem dX7_hasCrossing_0 : decode cX7_hasCrossing 0 = .ok (.iload_n 1, 1) := by decide +kernel
theorem dX7_hasCrossing_1 : decode cX7_hasCrossing 1 = .ok (.ifCond .lt 15, 3) := by decide +kernel
theorem dX7_hasCrossing_4 : decode cX7_hasCrossing 4 = .ok (.iload_n 1, 1) := by decide +kernel
theorem dX7_hasCrossing_5 : decode cX7_hasCrossing 5 = .ok (.aload_n 0, 1) := by decide +kernel
theorem dX7_hasCrossing_6 : decode cX7_hasCrossing 6 = .ok (.getfield 24, 3) := by decide +kernel
theorem dX7_hasCrossing_9 : decode cX7_hasCrossing 9 = .ok (.if_icmp .ge 7, 3) := by decide +kernel
theorem dX7_hasCrossing_12 : decode cX7_hasCrossing 12 = .ok (.iconst 1, 1) := by decide +kernel
theorem dX7_hasCrossing_13 : decode cX7_hasCrossing 13 = .ok (.goto 4, 3) := by decide +kernel
theorem dX7_hasCrossing_16 : decode cX7_hasCrossing 16 = .ok (.iconst 0, 1) := by decide +kernel
theorem dX7_hasCrossing_17 : decode cX7_hasCrossing 17 = .ok (.ireturn, 1) := by decide +kernel
theorem dX7_empty_0 : decode cX7_empty 0 = .ok (.aload_n 0, 1) := by decide +kernel
theorem dX7_empty_1 : decode cX7_empty 1 = .ok (.getfield 15, 3) := by decide +kernel
theorem dX7_empty_4 : decode cX7_empty 4 = .ok (.iconst (-1), 1) := by decide +kernel
theorem dX7_empty_5 : decode cX7_empty 5 = .ok (.invokestatic 18, 3) := by decide +kernel
theorem dX7_empty_8 : decode cX7_empty 8 = .ok (.aload_n 0, 1) := by decide +kernel
theorem dX7_empty_9 : decode cX7_empty 9 = .ok (.iconst 0, 1) := by decide +kernel
theorem dX7_empty_10 : decode cX7_empty 10 = .ok (.putfield 24, 3) := by decide +kernel
theorem dX7_empty_13 : decode cX7_empty 13 = .ok (.aload_n 0, 1) := by decide +kernel
theorem dX7_empty_14 : decode cX7_empty 14 = .ok (.iconst 0, 1) := by decide +kernel
theorem dX7_empty_15 : decode cX7_empty 15 = .ok (.putfield 28, 3) := by decide +kernel
theorem dX7_empty_18 : decode cX7_empty 18 = .ok (.return_, 1) := by decide +kernel
theorem dX7_take_0 : decode cX7_take 0 = .ok (.aload_n 1, 1) := by decide +kernel
theorem dX7_take_1 : decode cX7_take 1 = .ok (.getfield 9, 3) := by decide +kernel
theorem dX7_take_4 : decode cX7_take 4 = .ok (.iconst 0, 1) := by decide +kernel
theorem dX7_take_5 : decode cX7_take 5 = .ok (.aload_n 0, 1) := by decide +kernel
theorem dX7_take_6 : decode cX7_take 6 = .ok (.getfield 9, 3) := by decide +kernel
theorem dX7_take_9 : decode cX7_take 9 = .ok (.iconst 0, 1) := by decide +kernel
theorem dX7_take_10 : decode cX7_take 10 = .ok (.bipush 40, 2) := by decide +kernel
theorem dX7_take_12 : decode cX7_take 12 = .ok (.invokestatic 31, 3) := by decide +kernel
theorem dX7_take_15 : decode cX7_take 15 = .ok (.aload_n 1, 1) := by decide +kernel
theorem dX7_take_16 : decode cX7_take 16 = .ok (.getfield 15, 3) := by decide +kernel
theorem dX7_take_19 : decode cX7_take 19 = .ok (.iconst 0, 1) := by decide +kernel
theorem dX7_take_20 : decode cX7_take 20 = .ok (.aload_n 0, 1) := by decide +kernel
theorem dX7_take_21 : decode cX7_take 21 = .ok (.getfield 15, 3) := by decide +kernel
theorem dX7_take_24 : decode cX7_take 24 = .ok (.iconst 0, 1) := by decide +kernel
theorem dX7_take_25 : decode cX7_take 25 = .ok (.sipush 160, 3) := by decide +kernel
theorem dX7_take_28 : decode cX7_take 28 = .ok (.invokestatic 31, 3) := by decide +kernel
theorem dX7_take_31 : decode cX7_take 31 = .ok (.aload_n 0, 1) := by decide +kernel
theorem dX7_take_32 : decode cX7_take 32 = .ok (.aload_n 1, 1) := by decide +kernel
theorem dX7_take_33 : decode cX7_take 33 = .ok (.getfield 24, 3) := by decide +kernel
theorem dX7_take_36 : decode cX7_take 36 = .ok (.putfield 24, 3) := by decide +kernel
theorem dX7_take_39 : decode cX7_take 39 = .ok (.aload_n 0, 1) := by decide +kernel
theorem dX7_take_40 : decode cX7_take 40 = .ok (.aload_n 1, 1) := by decide +kernel
theorem dX7_take_41 : decode cX7_take 41 = .ok (.getfield 28, 3) := by decide +kernel
theorem dX7_take_44 : decode cX7_take 44 = .ok (.putfield 28, 3) := by decide +kernel
theorem dX7_take_47 : decode cX7_take 47 = .ok (.return_, 1) := by decide +kernel
theorem dX7_add_0 : decode cX7_add 0 = .ok (.aload_n 0, 1) := by decide +kernel
theorem dX7_add_1 : decode cX7_add 1 = .ok (.getfield 24, 3) := by decide +kernel
theorem dX7_add_4 : decode cX7_add 4 = .ok (.bipush 40, 2) := by decide +kernel
theorem dX7_add_6 : decode cX7_add 6 = .ok (.if_icmp .lt 4, 3) := by decide +kernel
theorem dX7_add_9 : decode cX7_add 9 = .ok (.return_, 1) := by decide +kernel
theorem dX7_add_10 : decode cX7_add 10 = .ok (.aload_n 0, 1) := by decide +kernel
theorem dX7_add_11 : decode cX7_add 11 = .ok (.getfield 9, 3) := by decide +kernel
theorem dX7_add_14 : decode cX7_add 14 = .ok (.aload_n 0, 1) := by decide +kernel
theorem dX7_add_15 : decode cX7_add 15 = .ok (.getfield 24, 3) := by decide +kernel
theorem dX7_add_18 : decode cX7_add 18 = .ok (.iconst 4, 1) := by decide +kernel
theorem dX7_add_19 : decode cX7_add 19 = .ok (.iastore, 1) := by decide +kernel
theorem dX7_add_20 : decode cX7_add 20 = .ok (.aload_n 0, 1) := by decide +kernel
theorem dX7_add_21 : decode cX7_add 21 = .ok (.getfield 15, 3) := by decide +kernel
theorem dX7_add_24 : decode cX7_add 24 = .ok (.iconst 4, 1) := by decide +kernel
theorem dX7_add_25 : decode cX7_add 25 = .ok (.aload_n 0, 1) := by decide +kernel
theorem dX7_add_26 : decode cX7_add 26 = .ok (.getfield 24, 3) := by decide +kernel
theorem dX7_add_29 : decode cX7_add 29 = .ok (.imul, 1) := by decide +kernel
theorem dX7_add_30 : decode cX7_add 30 = .ok (.iload_n 1, 1) := by decide +kernel
theorem dX7_add_31 : decode cX7_add 31 = .ok (.iastore, 1) := by decide +kernel
theorem dX7_add_32 : decode cX7_add 32 = .ok (.aload_n 0, 1) := by decide +kernel
theorem dX7_add_33 : decode cX7_add 33 = .ok (.getfield 15, 3) := by decide +kernel
theorem dX7_add_36 : decode cX7_add 36 = .ok (.iconst 4, 1) := by decide +kernel
theorem dX7_add_37 : decode cX7_add 37 = .ok (.aload_n 0, 1) := by decide +kernel
theorem dX7_add_38 : decode cX7_add 38 = .ok (.getfield 24, 3) := by decide +kernel
theorem dX7_add_41 : decode cX7_add 41 = .ok (.imul, 1) := by decide +kernel
theorem dX7_add_42 : decode cX7_add 42 = .ok (.iconst 1, 1) := by decide +kernel
theorem dX7_add_43 : decode cX7_add 43 = .ok (.iadd, 1) := by decide +kernel
theorem dX7_add_44 : decode cX7_add 44 = .ok (.iload_n 2, 1) := by decide +kernel
theorem dX7_add_45 : decode cX7_add 45 = .ok (.iastore, 1) := by decide +kernel
theorem dX7_add_46 : decode cX7_add 46 = .ok (.aload_n 0, 1) := by decide +kernel
theorem dX7_add_47 : decode cX7_add 47 = .ok (.getfield 15, 3) := by decide +kernel
theorem dX7_add_50 : decode cX7_add 50 = .ok (.iconst 4, 1) := by decide +kernel
theorem dX7_add_51 : decode cX7_add 51 = .ok (.aload_n 0, 1) := by decide +kernel
theorem dX7_add_52 : decode cX7_add 52 = .ok (.getfield 24, 3) := by decide +kernel
theorem dX7_add_55 : decode cX7_add 55 = .ok (.imul, 1) := by decide +kernel
theorem dX7_add_56 : decode cX7_add 56 = .ok (.iconst 2, 1) := by decide +kernel
theorem dX7_add_57 : decode cX7_add 57 = .ok (.iadd, 1) := by decide +kernel
theorem dX7_add_58 : decode cX7_add 58 = .ok (.iload_n 3, 1) := by decide +kernel
theorem dX7_add_59 : decode cX7_add 59 = .ok (.iastore, 1) := by decide +kernel
theorem dX7_add_60 : decode cX7_add 60 = .ok (.aload_n 0, 1) := by decide +kernel
theorem dX7_add_61 : decode cX7_add 61 = .ok (.getfield 15, 3) := by decide +kernel
theorem dX7_add_64 : decode cX7_add 64 = .ok (.iconst 4, 1) := by decide +kernel
theorem dX7_add_65 : decode cX7_add 65 = .ok (.aload_n 0, 1) := by decide +kernel
theorem dX7_add_66 : decode cX7_add 66 = .ok (.getfield 24, 3) := by decide +kernel
theorem dX7_add_69 : decode cX7_add 69 = .ok (.imul, 1) := by decide +kernel
theorem dX7_add_70 : decode cX7_add 70 = .ok (.iconst 3, 1) := by decide +kernel
theorem dX7_add_71 : decode cX7_add 71 = .ok (.iadd, 1) := by decide +kernel
theorem dX7_add_72 : decode cX7_add 72 = .ok (.iload 4, 2) := by decide +kernel
theorem dX7_add_74 : decode cX7_add 74 = .ok (.iastore, 1) := by decide +kernel
theorem dX7_add_75 : decode cX7_add 75 = .ok (.aload_n 0, 1) := by decide +kernel
theorem dX7_add_76 : decode cX7_add 76 = .ok (.dup, 1) := by decide +kernel
theorem dX7_add_77 : decode cX7_add 77 = .ok (.getfield 24, 3) := by decide +kernel
theorem dX7_add_80 : decode cX7_add 80 = .ok (.iconst 1, 1) := by decide +kernel
theorem dX7_add_81 : decode cX7_add 81 = .ok (.iadd, 1) := by decide +kernel
theorem dX7_add_82 : decode cX7_add 82 = .ok (.putfield 24, 3) := by decide +kernel
theorem dX7_add_85 : decode cX7_add 85 = .ok (.return_, 1) := by decide +kernel
theorem dX7_resize_0 : decode cX7_resize 0 = .ok (.aload_n 0, 1) := by decide +kernel
theorem dX7_resize_1 : decode cX7_resize 1 = .ok (.getfield 9, 3) := by decide +kernel
theorem dX7_resize_4 : decode cX7_resize 4 = .ok (.iload_n 1, 1) := by decide +kernel
theorem dX7_resize_5 : decode cX7_resize 5 = .ok (.iload_n 2, 1) := by decide +kernel
theorem dX7_resize_6 : decode cX7_resize 6 = .ok (.iastore, 1) := by decide +kernel
theorem dX7_resize_7 : decode cX7_resize 7 = .ok (.iload_n 2, 1) := by decide +kernel
theorem dX7_resize_8 : decode cX7_resize 8 = .ok (.iconst 0, 1) := by decide +kernel
theorem dX7_resize_9 : decode cX7_resize 9 = .ok (.invokestatic 37, 3) := by decide +kernel
theorem dX7_resize_12 : decode cX7_resize 12 = .ok (.istore_n 3, 1) := by decide +kernel
theorem dX7_resize_13 : decode cX7_resize 13 = .ok (.iload_n 3, 1) := by decide +kernel
theorem dX7_resize_14 : decode cX7_resize 14 = .ok (.iconst 4, 1) := by decide +kernel
theorem dX7_resize_15 : decode cX7_resize 15 = .ok (.if_icmp .ge 20, 3) := by decide +kernel
theorem dX7_resize_18 : decode cX7_resize 18 = .ok (.aload_n 0, 1) := by decide +kernel
theorem dX7_resize_19 : decode cX7_resize 19 = .ok (.getfield 15, 3) := by decide +kernel
theorem dX7_resize_22 : decode cX7_resize 22 = .ok (.iconst 4, 1) := by decide +kernel
theorem dX7_resize_23 : decode cX7_resize 23 = .ok (.iload_n 1, 1) := by decide +kernel
theorem dX7_resize_24 : decode cX7_resize 24 = .ok (.imul, 1) := by decide +kernel
theorem dX7_resize_25 : decode cX7_resize 25 = .ok (.iload_n 3, 1) := by decide +kernel
theorem dX7_resize_26 : decode cX7_resize 26 = .ok (.iadd, 1) := by decide +kernel
theorem dX7_resize_27 : decode cX7_resize 27 = .ok (.iconst (-1), 1) := by decide +kernel
theorem dX7_resize_28 : decode cX7_resize 28 = .ok (.iastore, 1) := by decide +kernel
theorem dX7_resize_29 : decode cX7_resize 29 = .ok (.iinc 3 1, 3) := by decide +kernel
theorem dX7_resize_32 : decode cX7_resize 32 = .ok (.goto (-19), 3) := by decide +kernel
theorem dX7_resize_35 : decode cX7_resize 35 = .ok (.return_, 1) := by decide +kernel
theorem dX7_rotate_0 : decode cX7_rotate 0 = .ok (.iconst 4, 1) := by decide +kernel
theorem dX7_rotate_1 : decode cX7_rotate 1 = .ok (.iload_n 1, 1) := by decide +kernel
theorem dX7_rotate_2 : decode cX7_rotate 2 = .ok (.imul, 1) := by decide +kernel
theorem dX7_rotate_3 : decode cX7_rotate 3 = .ok (.istore_n 3, 1) := by decide +kernel
theorem dX7_rotate_4 : decode cX7_rotate 4 = .ok (.aload_n 0, 1) := by decide +kernel
theorem dX7_rotate_5 : decode cX7_rotate 5 = .ok (.getfield 15, 3) := by decide +kernel
theorem dX7_rotate_8 : decode cX7_rotate 8 = .ok (.iload_n 3, 1) := by decide +kernel
theorem dX7_rotate_9 : decode cX7_rotate 9 = .ok (.iload_n 2, 1) := by decide +kernel
theorem dX7_rotate_10 : decode cX7_rotate 10 = .ok (.invokestatic 43, 3) := by decide +kernel
theorem dX7_rotate_13 : decode cX7_rotate 13 = .ok (.iaload, 1) := by decide +kernel
theorem dX7_rotate_14 : decode cX7_rotate 14 = .ok (.istore 4, 2) := by decide +kernel
theorem dX7_rotate_16 : decode cX7_rotate 16 = .ok (.aload_n 0, 1) := by decide +kernel
theorem dX7_rotate_17 : decode cX7_rotate 17 = .ok (.getfield 15, 3) := by decide +kernel
theorem dX7_rotate_20 : decode cX7_rotate 20 = .ok (.iload_n 3, 1) := by decide +kernel
theorem dX7_rotate_21 : decode cX7_rotate 21 = .ok (.iload_n 2, 1) := by decide +kernel
theorem dX7_rotate_22 : decode cX7_rotate 22 = .ok (.iconst 1, 1) := by decide +kernel
theorem dX7_rotate_23 : decode cX7_rotate 23 = .ok (.iadd, 1) := by decide +kernel
theorem dX7_rotate_24 : decode cX7_rotate 24 = .ok (.invokestatic 43, 3) := by decide +kernel
theorem dX7_rotate_27 : decode cX7_rotate 27 = .ok (.iaload, 1) := by decide +kernel
theorem dX7_rotate_28 : decode cX7_rotate 28 = .ok (.istore 5, 2) := by decide +kernel
theorem dX7_rotate_30 : decode cX7_rotate 30 = .ok (.aload_n 0, 1) := by decide +kernel
theorem dX7_rotate_31 : decode cX7_rotate 31 = .ok (.getfield 15, 3) := by decide +kernel
theorem dX7_rotate_34 : decode cX7_rotate 34 = .ok (.iload_n 3, 1) := by decide +kernel
theorem dX7_rotate_35 : decode cX7_rotate 35 = .ok (.iload_n 2, 1) := by decide +kernel
theorem dX7_rotate_36 : decode cX7_rotate 36 = .ok (.iconst 2, 1) := by decide +kernel
theorem dX7_rotate_37 : decode cX7_rotate 37 = .ok (.iadd, 1) := by decide +kernel
theorem dX7_rotate_38 : decode cX7_rotate 38 = .ok (.invokestatic 43, 3) := by decide +kernel
theorem dX7_rotate_41 : decode cX7_rotate 41 = .ok (.iaload, 1) := by decide +kernel
theorem dX7_rotate_42 : decode cX7_rotate 42 = .ok (.istore 6, 2) := by decide +kernel
theorem dX7_rotate_44 : decode cX7_rotate 44 = .ok (.aload_n 0, 1) := by decide +kernel
theorem dX7_rotate_45 : decode cX7_rotate 45 = .ok (.getfield 15, 3) := by decide +kernel
theorem dX7_rotate_48 : decode cX7_rotate 48 = .ok (.iload_n 3, 1) := by decide +kernel
theorem dX7_rotate_49 : decode cX7_rotate 49 = .ok (.iload_n 2, 1) := by decide +kernel
theorem dX7_rotate_50 : decode cX7_rotate 50 = .ok (.iconst 3, 1) := by decide +kernel
theorem dX7_rotate_51 : decode cX7_rotate 51 = .ok (.iadd, 1) := by decide +kernel
theorem dX7_rotate_52 : decode cX7_rotate 52 = .ok (.invokestatic 43, 3) := by decide +kernel
theorem dX7_rotate_55 : decode cX7_rotate 55 = .ok (.iaload, 1) := by decide +kernel
theorem dX7_rotate_56 : decode cX7_rotate 56 = .ok (.istore 7, 2) := by decide +kernel
theorem dX7_rotate_58 : decode cX7_rotate 58 = .ok (.aload_n 0, 1) := by decide +kernel
theorem dX7_rotate_59 : decode cX7_rotate 59 = .ok (.getfield 15, 3) := by decide +kernel
theorem dX7_rotate_62 : decode cX7_rotate 62 = .ok (.iload_n 3, 1) := by decide +kernel
theorem dX7_rotate_63 : decode cX7_rotate 63 = .ok (.iload 4, 2) := by decide +kernel
theorem dX7_rotate_65 : decode cX7_rotate 65 = .ok (.iastore, 1) := by decide +kernel
theorem dX7_rotate_66 : decode cX7_rotate 66 = .ok (.aload_n 0, 1) := by decide +kernel
theorem dX7_rotate_67 : decode cX7_rotate 67 = .ok (.getfield 15, 3) := by decide +kernel
theorem dX7_rotate_70 : decode cX7_rotate 70 = .ok (.iload_n 3, 1) := by decide +kernel
theorem dX7_rotate_71 : decode cX7_rotate 71 = .ok (.iconst 1, 1) := by decide +kernel
theorem dX7_rotate_72 : decode cX7_rotate 72 = .ok (.iadd, 1) := by decide +kernel
theorem dX7_rotate_73 : decode cX7_rotate 73 = .ok (.iload 5, 2) := by decide +kernel
theorem dX7_rotate_75 : decode cX7_rotate 75 = .ok (.iastore, 1) := by decide +kernel
theorem dX7_rotate_76 : decode cX7_rotate 76 = .ok (.aload_n 0, 1) := by decide +kernel
theorem dX7_rotate_77 : decode cX7_rotate 77 = .ok (.getfield 15, 3) := by decide +kernel
theorem dX7_rotate_80 : decode cX7_rotate 80 = .ok (.iload_n 3, 1) := by decide +kernel
theorem dX7_rotate_81 : decode cX7_rotate 81 = .ok (.iconst 2, 1) := by decide +kernel
theorem dX7_rotate_82 : decode cX7_rotate 82 = .ok (.iadd, 1) := by decide +kernel
theorem dX7_rotate_83 : decode cX7_rotate 83 = .ok (.iload 6, 2) := by decide +kernel
theorem dX7_rotate_85 : decode cX7_rotate 85 = .ok (.iastore, 1) := by decide +kernel
theorem dX7_rotate_86 : decode cX7_rotate 86 = .ok (.aload_n 0, 1) := by decide +kernel
theorem dX7_rotate_87 : decode cX7_rotate 87 = .ok (.getfield 15, 3) := by decide +kernel
theorem dX7_rotate_90 : decode cX7_rotate 90 = .ok (.iload_n 3, 1) := by decide +kernel
theorem dX7_rotate_91 : decode cX7_rotate 91 = .ok (.iconst 3, 1) := by decide +kernel
theorem dX7_rotate_92 : decode cX7_rotate 92 = .ok (.iadd, 1) := by decide +kernel
theorem dX7_rotate_93 : decode cX7_rotate 93 = .ok (.iload 7, 2) := by decide +kernel
theorem dX7_rotate_95 : decode cX7_rotate 95 = .ok (.iastore, 1) := by decide +kernel
theorem dX7_rotate_96 : decode cX7_rotate 96 = .ok (.return_, 1) := by decide +kernel
theorem dX7_flip_0 : decode cX7_flip 0 = .ok (.aload_n 0, 1) := by decide +kernel
theorem dX7_flip_1 : decode cX7_flip 1 = .ok (.iconst 4, 1) := by decide +kernel
theorem dX7_flip_2 : decode cX7_flip 2 = .ok (.iload_n 1, 1) := by decide +kernel
theorem dX7_flip_3 : decode cX7_flip 3 = .ok (.imul, 1) := by decide +kernel
theorem dX7_flip_4 : decode cX7_flip 4 = .ok (.iconst 4, 1) := by decide +kernel
theorem dX7_flip_5 : decode cX7_flip 5 = .ok (.iload_n 1, 1) := by decide +kernel
theorem dX7_flip_6 : decode cX7_flip 6 = .ok (.imul, 1) := by decide +kernel
theorem dX7_flip_7 : decode cX7_flip 7 = .ok (.iconst 1, 1) := by decide +kernel
theorem dX7_flip_8 : decode cX7_flip 8 = .ok (.iadd, 1) := by decide +kernel
theorem dX7_flip_9 : decode cX7_flip 9 = .ok (.invokevirtual 46, 3) := by decide +kernel
theorem dX7_flip_12 : decode cX7_flip 12 = .ok (.aload_n 0, 1) := by decide +kernel
theorem dX7_flip_13 : decode cX7_flip 13 = .ok (.iconst 4, 1) := by decide +kernel
theorem dX7_flip_14 : decode cX7_flip 14 = .ok (.iload_n 1, 1) := by decide +kernel
theorem dX7_flip_15 : decode cX7_flip 15 = .ok (.imul, 1) := by decide +kernel
theorem dX7_flip_16 : decode cX7_flip 16 = .ok (.iconst 2, 1) := by decide +kernel
theorem dX7_flip_17 : decode cX7_flip 17 = .ok (.iadd, 1) := by decide +kernel
theorem dX7_flip_18 : decode cX7_flip 18 = .ok (.iconst 4, 1) := by decide +kernel
theorem dX7_flip_19 : decode cX7_flip 19 = .ok (.iload_n 1, 1) := by decide +kernel
theorem dX7_flip_20 : decode cX7_flip 20 = .ok (.imul, 1) := by decide +kernel
theorem dX7_flip_21 : decode cX7_flip 21 = .ok (.iconst 3, 1) := by decide +kernel
theorem dX7_flip_22 : decode cX7_flip 22 = .ok (.iadd, 1) := by decide +kernel
theorem dX7_flip_23 : decode cX7_flip 23 = .ok (.invokevirtual 46, 3) := by decide +kernel
theorem dX7_flip_26 : decode cX7_flip 26 = .ok (.return_, 1) := by decide +kernel
theorem dX7_swap_0 : decode cX7_swap 0 = .ok (.aload_n 0, 1) := by decide +kernel
theorem dX7_swap_1 : decode cX7_swap 1 = .ok (.getfield 15, 3) := by decide +kernel
theorem dX7_swap_4 : decode cX7_swap 4 = .ok (.iload_n 1, 1) := by decide +kernel
theorem dX7_swap_5 : decode cX7_swap 5 = .ok (.iaload, 1) := by decide +kernel
theorem dX7_swap_6 : decode cX7_swap 6 = .ok (.istore_n 3, 1) := by decide +kernel
theorem dX7_swap_7 : decode cX7_swap 7 = .ok (.aload_n 0, 1) := by decide +kernel
theorem dX7_swap_8 : decode cX7_swap 8 = .ok (.getfield 15, 3) := by decide +kernel
theorem dX7_swap_11 : decode cX7_swap 11 = .ok (.iload_n 1, 1) := by decide +kernel
theorem dX7_swap_12 : decode cX7_swap 12 = .ok (.aload_n 0, 1) := by decide +kernel
theorem dX7_swap_13 : decode cX7_swap 13 = .ok (.getfield 15, 3) := by decide +kernel
theorem dX7_swap_16 : decode cX7_swap 16 = .ok (.iload_n 2, 1) := by decide +kernel
theorem dX7_swap_17 : decode cX7_swap 17 = .ok (.iaload, 1) := by decide +kernel
theorem dX7_swap_18 : decode cX7_swap 18 = .ok (.iastore, 1) := by decide +kernel
theorem dX7_swap_19 : decode cX7_swap 19 = .ok (.aload_n 0, 1) := by decide +kernel
theorem dX7_swap_20 : decode cX7_swap 20 = .ok (.getfield 15, 3) := by decide +kernel
theorem dX7_swap_23 : decode cX7_swap 23 = .ok (.iload_n 2, 1) := by decide +kernel
theorem dX7_swap_24 : decode cX7_swap 24 = .ok (.iload_n 3, 1) := by decide +kernel
theorem dX7_swap_25 : decode cX7_swap 25 = .ok (.iastore, 1) := by decide +kernel
theorem dX7_swap_26 : decode cX7_swap 26 = .ok (.return_, 1) := by decide +kernel
theorem dX7_freeArc_0 : decode cX7_freeArc 0 = .ok (.lconst 0, 1) := by decide +kernel
theorem dX7_freeArc_1 : decode cX7_freeArc 1 = .ok (.lstore_n 2, 1) := by decide +kernel
theorem dX7_freeArc_2 : decode cX7_freeArc 2 = .ok (.lconst 0, 1) := by decide +kernel
theorem dX7_freeArc_3 : decode cX7_freeArc 3 = .ok (.lstore 4, 2) := by decide +kernel
theorem dX7_freeArc_5 : decode cX7_freeArc 5 = .ok (.iconst 0, 1) := by decide +kernel
theorem dX7_freeArc_6 : decode cX7_freeArc 6 = .ok (.istore 6, 2) := by decide +kernel
theorem dX7_freeArc_8 : decode cX7_freeArc 8 = .ok (.iload 6, 2) := by decide +kernel
theorem dX7_freeArc_10 : decode cX7_freeArc 10 = .ok (.iconst 4, 1) := by decide +kernel
theorem dX7_freeArc_11 : decode cX7_freeArc 11 = .ok (.aload_n 0, 1) := by decide +kernel
theorem dX7_freeArc_12 : decode cX7_freeArc 12 = .ok (.getfield 24, 3) := by decide +kernel
theorem dX7_freeArc_15 : decode cX7_freeArc 15 = .ok (.imul, 1) := by decide +kernel
theorem dX7_freeArc_16 : decode cX7_freeArc 16 = .ok (.if_icmp .ge 52, 3) := by decide +kernel
theorem dX7_freeArc_19 : decode cX7_freeArc 19 = .ok (.aload_n 0, 1) := by decide +kernel
theorem dX7_freeArc_20 : decode cX7_freeArc 20 = .ok (.getfield 15, 3) := by decide +kernel
theorem dX7_freeArc_23 : decode cX7_freeArc 23 = .ok (.iload 6, 2) := by decide +kernel
theorem dX7_freeArc_25 : decode cX7_freeArc 25 = .ok (.iaload, 1) := by decide +kernel
theorem dX7_freeArc_26 : decode cX7_freeArc 26 = .ok (.istore 7, 2) := by decide +kernel
theorem dX7_freeArc_28 : decode cX7_freeArc 28 = .ok (.iload 7, 2) := by decide +kernel
theorem dX7_freeArc_30 : decode cX7_freeArc 30 = .ok (.bipush 64, 2) := by decide +kernel
theorem dX7_freeArc_32 : decode cX7_freeArc 32 = .ok (.if_icmp .lt 18, 3) := by decide +kernel
theorem dX7_freeArc_35 : decode cX7_freeArc 35 = .ok (.lload 4, 2) := by decide +kernel
theorem dX7_freeArc_37 : decode cX7_freeArc 37 = .ok (.lconst 1, 1) := by decide +kernel
theorem dX7_freeArc_38 : decode cX7_freeArc 38 = .ok (.iload 7, 2) := by decide +kernel
theorem dX7_freeArc_40 : decode cX7_freeArc 40 = .ok (.bipush 64, 2) := by decide +kernel
theorem dX7_freeArc_42 : decode cX7_freeArc 42 = .ok (.isub, 1) := by decide +kernel
theorem dX7_freeArc_43 : decode cX7_freeArc 43 = .ok (.lshl, 1) := by decide +kernel
theorem dX7_freeArc_44 : decode cX7_freeArc 44 = .ok (.lor, 1) := by decide +kernel
theorem dX7_freeArc_45 : decode cX7_freeArc 45 = .ok (.lstore 4, 2) := by decide +kernel
theorem dX7_freeArc_47 : decode cX7_freeArc 47 = .ok (.goto 15, 3) := by decide +kernel
theorem dX7_freeArc_50 : decode cX7_freeArc 50 = .ok (.iload 7, 2) := by decide +kernel
theorem dX7_freeArc_52 : decode cX7_freeArc 52 = .ok (.ifCond .lt 10, 3) := by decide +kernel
theorem dX7_freeArc_55 : decode cX7_freeArc 55 = .ok (.lload_n 2, 1) := by decide +kernel
theorem dX7_freeArc_56 : decode cX7_freeArc 56 = .ok (.lconst 1, 1) := by decide +kernel
theorem dX7_freeArc_57 : decode cX7_freeArc 57 = .ok (.iload 7, 2) := by decide +kernel
theorem dX7_freeArc_59 : decode cX7_freeArc 59 = .ok (.lshl, 1) := by decide +kernel
theorem dX7_freeArc_60 : decode cX7_freeArc 60 = .ok (.lor, 1) := by decide +kernel
theorem dX7_freeArc_61 : decode cX7_freeArc 61 = .ok (.lstore_n 2, 1) := by decide +kernel
theorem dX7_freeArc_62 : decode cX7_freeArc 62 = .ok (.iinc 6 1, 3) := by decide +kernel
theorem dX7_freeArc_65 : decode cX7_freeArc 65 = .ok (.goto (-57), 3) := by decide +kernel
theorem dX7_freeArc_68 : decode cX7_freeArc 68 = .ok (.iload_n 1, 1) := by decide +kernel
theorem dX7_freeArc_69 : decode cX7_freeArc 69 = .ok (.iconst 1, 1) := by decide +kernel
theorem dX7_freeArc_70 : decode cX7_freeArc 70 = .ok (.iadd, 1) := by decide +kernel
theorem dX7_freeArc_71 : decode cX7_freeArc 71 = .ok (.istore 6, 2) := by decide +kernel
theorem dX7_freeArc_73 : decode cX7_freeArc 73 = .ok (.iload 6, 2) := by decide +kernel
theorem dX7_freeArc_75 : decode cX7_freeArc 75 = .ok (.bipush 100, 2) := by decide +kernel
theorem dX7_freeArc_77 : decode cX7_freeArc 77 = .ok (.if_icmp .ge 45, 3) := by decide +kernel
theorem dX7_freeArc_80 : decode cX7_freeArc 80 = .ok (.iload 6, 2) := by decide +kernel
theorem dX7_freeArc_82 : decode cX7_freeArc 82 = .ok (.bipush 64, 2) := by decide +kernel
theorem dX7_freeArc_84 : decode cX7_freeArc 84 = .ok (.if_icmp .ge 10, 3) := by decide +kernel
theorem dX7_freeArc_87 : decode cX7_freeArc 87 = .ok (.lload_n 2, 1) := by decide +kernel
theorem dX7_freeArc_88 : decode cX7_freeArc 88 = .ok (.iload 6, 2) := by decide +kernel
theorem dX7_freeArc_90 : decode cX7_freeArc 90 = .ok (.lshr, 1) := by decide +kernel
theorem dX7_freeArc_91 : decode cX7_freeArc 91 = .ok (.goto 11, 3) := by decide +kernel
theorem dX7_freeArc_94 : decode cX7_freeArc 94 = .ok (.lload 4, 2) := by decide +kernel
theorem dX7_freeArc_96 : decode cX7_freeArc 96 = .ok (.iload 6, 2) := by decide +kernel
theorem dX7_freeArc_98 : decode cX7_freeArc 98 = .ok (.bipush 64, 2) := by decide +kernel
theorem dX7_freeArc_100 : decode cX7_freeArc 100 = .ok (.isub, 1) := by decide +kernel
theorem dX7_freeArc_101 : decode cX7_freeArc 101 = .ok (.lshr, 1) := by decide +kernel
theorem dX7_freeArc_102 : decode cX7_freeArc 102 = .ok (.lstore 7, 2) := by decide +kernel
theorem dX7_freeArc_104 : decode cX7_freeArc 104 = .ok (.lload 7, 2) := by decide +kernel
theorem dX7_freeArc_106 : decode cX7_freeArc 106 = .ok (.lconst 1, 1) := by decide +kernel
theorem dX7_freeArc_107 : decode cX7_freeArc 107 = .ok (.land, 1) := by decide +kernel
theorem dX7_freeArc_108 : decode cX7_freeArc 108 = .ok (.lconst 0, 1) := by decide +kernel
theorem dX7_freeArc_109 : decode cX7_freeArc 109 = .ok (.lcmp, 1) := by decide +kernel
theorem dX7_freeArc_110 : decode cX7_freeArc 110 = .ok (.ifCond .ne 6, 3) := by decide +kernel
theorem dX7_freeArc_113 : decode cX7_freeArc 113 = .ok (.iload 6, 2) := by decide +kernel
theorem dX7_freeArc_115 : decode cX7_freeArc 115 = .ok (.ireturn, 1) := by decide +kernel
theorem dX7_freeArc_116 : decode cX7_freeArc 116 = .ok (.iinc 6 1, 3) := by decide +kernel
theorem dX7_freeArc_119 : decode cX7_freeArc 119 = .ok (.goto (-46), 3) := by decide +kernel
theorem dX7_freeArc_122 : decode cX7_freeArc 122 = .ok (.iconst (-1), 1) := by decide +kernel
theorem dX7_freeArc_123 : decode cX7_freeArc 123 = .ok (.ireturn, 1) := by decide +kernel
theorem dX7_fuse_0 : decode cX7_fuse 0 = .ok (.iload_n 1, 1) := by decide +kernel
theorem dX7_fuse_1 : decode cX7_fuse 1 = .ok (.iload_n 2, 1) := by decide +kernel
theorem dX7_fuse_2 : decode cX7_fuse 2 = .ok (.if_icmp .ne 14, 3) := by decide +kernel
theorem dX7_fuse_5 : decode cX7_fuse 5 = .ok (.aload_n 0, 1) := by decide +kernel
theorem dX7_fuse_6 : decode cX7_fuse 6 = .ok (.dup, 1) := by decide +kernel
theorem dX7_fuse_7 : decode cX7_fuse 7 = .ok (.getfield 28, 3) := by decide +kernel
theorem dX7_fuse_10 : decode cX7_fuse 10 = .ok (.iconst 1, 1) := by decide +kernel
theorem dX7_fuse_11 : decode cX7_fuse 11 = .ok (.iadd, 1) := by decide +kernel
theorem dX7_fuse_12 : decode cX7_fuse 12 = .ok (.putfield 28, 3) := by decide +kernel
theorem dX7_fuse_15 : decode cX7_fuse 15 = .ok (.return_, 1) := by decide +kernel
theorem dX7_fuse_16 : decode cX7_fuse 16 = .ok (.iconst 0, 1) := by decide +kernel
theorem dX7_fuse_17 : decode cX7_fuse 17 = .ok (.istore_n 3, 1) := by decide +kernel
theorem dX7_fuse_18 : decode cX7_fuse 18 = .ok (.iload_n 3, 1) := by decide +kernel
theorem dX7_fuse_19 : decode cX7_fuse 19 = .ok (.iconst 4, 1) := by decide +kernel
theorem dX7_fuse_20 : decode cX7_fuse 20 = .ok (.aload_n 0, 1) := by decide +kernel
theorem dX7_fuse_21 : decode cX7_fuse 21 = .ok (.getfield 24, 3) := by decide +kernel
theorem dX7_fuse_24 : decode cX7_fuse 24 = .ok (.imul, 1) := by decide +kernel
theorem dX7_fuse_25 : decode cX7_fuse 25 = .ok (.if_icmp .ge 26, 3) := by decide +kernel
theorem dX7_fuse_28 : decode cX7_fuse 28 = .ok (.aload_n 0, 1) := by decide +kernel
theorem dX7_fuse_29 : decode cX7_fuse 29 = .ok (.getfield 15, 3) := by decide +kernel
theorem dX7_fuse_32 : decode cX7_fuse 32 = .ok (.iload_n 3, 1) := by decide +kernel
theorem dX7_fuse_33 : decode cX7_fuse 33 = .ok (.iaload, 1) := by decide +kernel
theorem dX7_fuse_34 : decode cX7_fuse 34 = .ok (.iload_n 2, 1) := by decide +kernel
theorem dX7_fuse_35 : decode cX7_fuse 35 = .ok (.if_icmp .ne 10, 3) := by decide +kernel
theorem dX7_fuse_38 : decode cX7_fuse 38 = .ok (.aload_n 0, 1) := by decide +kernel
theorem dX7_fuse_39 : decode cX7_fuse 39 = .ok (.getfield 15, 3) := by decide +kernel
theorem dX7_fuse_42 : decode cX7_fuse 42 = .ok (.iload_n 3, 1) := by decide +kernel
theorem dX7_fuse_43 : decode cX7_fuse 43 = .ok (.iload_n 1, 1) := by decide +kernel
theorem dX7_fuse_44 : decode cX7_fuse 44 = .ok (.iastore, 1) := by decide +kernel
theorem dX7_fuse_45 : decode cX7_fuse 45 = .ok (.iinc 3 1, 3) := by decide +kernel
theorem dX7_fuse_48 : decode cX7_fuse 48 = .ok (.goto (-30), 3) := by decide +kernel
theorem dX7_fuse_51 : decode cX7_fuse 51 = .ok (.return_, 1) := by decide +kernel
theorem dX7_remove_0 : decode cX7_remove 0 = .ok (.aload_n 0, 1) := by decide +kernel
theorem dX7_remove_1 : decode cX7_remove 1 = .ok (.iload_n 1, 1) := by decide +kernel
theorem dX7_remove_2 : decode cX7_remove 2 = .ok (.invokevirtual 50, 3) := by decide +kernel
theorem dX7_remove_5 : decode cX7_remove 5 = .ok (.ifCond .ne 4, 3) := by decide +kernel
theorem dX7_remove_8 : decode cX7_remove 8 = .ok (.return_, 1) := by decide +kernel
theorem dX7_remove_9 : decode cX7_remove 9 = .ok (.aload_n 0, 1) := by decide +kernel
theorem dX7_remove_10 : decode cX7_remove 10 = .ok (.getfield 24, 3) := by decide +kernel
theorem dX7_remove_13 : decode cX7_remove 13 = .ok (.iconst 1, 1) := by decide +kernel
theorem dX7_remove_14 : decode cX7_remove 14 = .ok (.isub, 1) := by decide +kernel
theorem dX7_remove_15 : decode cX7_remove 15 = .ok (.iload_n 1, 1) := by decide +kernel
theorem dX7_remove_16 : decode cX7_remove 16 = .ok (.isub, 1) := by decide +kernel
theorem dX7_remove_17 : decode cX7_remove 17 = .ok (.istore_n 2, 1) := by decide +kernel
theorem dX7_remove_18 : decode cX7_remove 18 = .ok (.aload_n 0, 1) := by decide +kernel
theorem dX7_remove_19 : decode cX7_remove 19 = .ok (.getfield 15, 3) := by decide +kernel
theorem dX7_remove_22 : decode cX7_remove 22 = .ok (.iconst 4, 1) := by decide +kernel
theorem dX7_remove_23 : decode cX7_remove 23 = .ok (.iload_n 1, 1) := by decide +kernel
theorem dX7_remove_24 : decode cX7_remove 24 = .ok (.imul, 1) := by decide +kernel
theorem dX7_remove_25 : decode cX7_remove 25 = .ok (.iconst 4, 1) := by decide +kernel
theorem dX7_remove_26 : decode cX7_remove 26 = .ok (.iadd, 1) := by decide +kernel
theorem dX7_remove_27 : decode cX7_remove 27 = .ok (.aload_n 0, 1) := by decide +kernel
theorem dX7_remove_28 : decode cX7_remove 28 = .ok (.getfield 15, 3) := by decide +kernel
theorem dX7_remove_31 : decode cX7_remove 31 = .ok (.iconst 4, 1) := by decide +kernel
theorem dX7_remove_32 : decode cX7_remove 32 = .ok (.iload_n 1, 1) := by decide +kernel
theorem dX7_remove_33 : decode cX7_remove 33 = .ok (.imul, 1) := by decide +kernel
theorem dX7_remove_34 : decode cX7_remove 34 = .ok (.iconst 4, 1) := by decide +kernel
theorem dX7_remove_35 : decode cX7_remove 35 = .ok (.iload_n 2, 1) := by decide +kernel
theorem dX7_remove_36 : decode cX7_remove 36 = .ok (.imul, 1) := by decide +kernel
theorem dX7_remove_37 : decode cX7_remove 37 = .ok (.invokestatic 31, 3) := by decide +kernel
theorem dX7_remove_40 : decode cX7_remove 40 = .ok (.aload_n 0, 1) := by decide +kernel
theorem dX7_remove_41 : decode cX7_remove 41 = .ok (.getfield 9, 3) := by decide +kernel
theorem dX7_remove_44 : decode cX7_remove 44 = .ok (.iload_n 1, 1) := by decide +kernel
theorem dX7_remove_45 : decode cX7_remove 45 = .ok (.iconst 1, 1) := by decide +kernel
theorem dX7_remove_46 : decode cX7_remove 46 = .ok (.iadd, 1) := by decide +kernel
theorem dX7_remove_47 : decode cX7_remove 47 = .ok (.aload_n 0, 1) := by decide +kernel
theorem dX7_remove_48 : decode cX7_remove 48 = .ok (.getfield 9, 3) := by decide +kernel
theorem dX7_remove_51 : decode cX7_remove 51 = .ok (.iload_n 1, 1) := by decide +kernel
theorem dX7_remove_52 : decode cX7_remove 52 = .ok (.iload_n 2, 1) := by decide +kernel
theorem dX7_remove_53 : decode cX7_remove 53 = .ok (.invokestatic 31, 3) := by decide +kernel
theorem dX7_remove_56 : decode cX7_remove 56 = .ok (.aload_n 0, 1) := by decide +kernel
theorem dX7_remove_57 : decode cX7_remove 57 = .ok (.dup, 1) := by decide +kernel
theorem dX7_remove_58 : decode cX7_remove 58 = .ok (.getfield 24, 3) := by decide +kernel
theorem dX7_remove_61 : decode cX7_remove 61 = .ok (.iconst 1, 1) := by decide +kernel
theorem dX7_remove_62 : decode cX7_remove 62 = .ok (.isub, 1) := by decide +kernel
theorem dX7_remove_63 : decode cX7_remove 63 = .ok (.putfield 24, 3) := by decide +kernel
theorem dX7_remove_66 : decode cX7_remove 66 = .ok (.aload_n 0, 1) := by decide +kernel
theorem dX7_remove_67 : decode cX7_remove 67 = .ok (.getfield 15, 3) := by decide +kernel
theorem dX7_remove_70 : decode cX7_remove 70 = .ok (.iconst 4, 1) := by decide +kernel
theorem dX7_remove_71 : decode cX7_remove 71 = .ok (.aload_n 0, 1) := by decide +kernel
theorem dX7_remove_72 : decode cX7_remove 72 = .ok (.getfield 24, 3) := by decide +kernel
theorem dX7_remove_75 : decode cX7_remove 75 = .ok (.imul, 1) := by decide +kernel
theorem dX7_remove_76 : decode cX7_remove 76 = .ok (.iconst 4, 1) := by decide +kernel
theorem dX7_remove_77 : decode cX7_remove 77 = .ok (.aload_n 0, 1) := by decide +kernel
theorem dX7_remove_78 : decode cX7_remove 78 = .ok (.getfield 24, 3) := by decide +kernel
theorem dX7_remove_81 : decode cX7_remove 81 = .ok (.imul, 1) := by decide +kernel
theorem dX7_remove_82 : decode cX7_remove 82 = .ok (.iconst 4, 1) := by decide +kernel
theorem dX7_remove_83 : decode cX7_remove 83 = .ok (.iadd, 1) := by decide +kernel
theorem dX7_remove_84 : decode cX7_remove 84 = .ok (.iconst (-1), 1) := by decide +kernel
theorem dX7_remove_85 : decode cX7_remove 85 = .ok (.invokestatic 54, 3) := by decide +kernel
theorem dX7_remove_88 : decode cX7_remove 88 = .ok (.return_, 1) := by decide +kernel
theorem dX7_append_0 : decode cX7_append 0 = .ok (.iconst 4, 1) := by decide +kernel
theorem dX7_append_1 : decode cX7_append 1 = .ok (.aload_n 0, 1) := by decide +kernel
theorem dX7_append_2 : decode cX7_append 2 = .ok (.getfield 24, 3) := by decide +kernel
theorem dX7_append_5 : decode cX7_append 5 = .ok (.imul, 1) := by decide +kernel
theorem dX7_append_6 : decode cX7_append 6 = .ok (.istore_n 3, 1) := by decide +kernel
theorem dX7_append_7 : decode cX7_append 7 = .ok (.aload_n 0, 1) := by decide +kernel
theorem dX7_append_8 : decode cX7_append 8 = .ok (.dup, 1) := by decide +kernel
theorem dX7_append_9 : decode cX7_append 9 = .ok (.getfield 28, 3) := by decide +kernel
theorem dX7_append_12 : decode cX7_append 12 = .ok (.aload_n 1, 1) := by decide +kernel
theorem dX7_append_13 : decode cX7_append 13 = .ok (.getfield 28, 3) := by decide +kernel
theorem dX7_append_16 : decode cX7_append 16 = .ok (.iadd, 1) := by decide +kernel
theorem dX7_append_17 : decode cX7_append 17 = .ok (.putfield 28, 3) := by decide +kernel
theorem dX7_append_20 : decode cX7_append 20 = .ok (.iconst 0, 1) := by decide +kernel
theorem dX7_append_21 : decode cX7_append 21 = .ok (.istore 4, 2) := by decide +kernel
theorem dX7_append_23 : decode cX7_append 23 = .ok (.iload 4, 2) := by decide +kernel
theorem dX7_append_25 : decode cX7_append 25 = .ok (.aload_n 1, 1) := by decide +kernel
theorem dX7_append_26 : decode cX7_append 26 = .ok (.getfield 24, 3) := by decide +kernel
theorem dX7_append_29 : decode cX7_append 29 = .ok (.if_icmp .ge 17, 3) := by decide +kernel
theorem dX7_append_32 : decode cX7_append 32 = .ok (.aload_n 0, 1) := by decide +kernel
theorem dX7_append_33 : decode cX7_append 33 = .ok (.iconst (-1), 1) := by decide +kernel
theorem dX7_append_34 : decode cX7_append 34 = .ok (.iconst (-1), 1) := by decide +kernel
theorem dX7_append_35 : decode cX7_append 35 = .ok (.iconst (-1), 1) := by decide +kernel
theorem dX7_append_36 : decode cX7_append 36 = .ok (.iconst (-1), 1) := by decide +kernel
theorem dX7_append_37 : decode cX7_append 37 = .ok (.invokevirtual 57, 3) := by decide +kernel
theorem dX7_append_40 : decode cX7_append 40 = .ok (.iinc 4 1, 3) := by decide +kernel
theorem dX7_append_43 : decode cX7_append 43 = .ok (.goto (-20), 3) := by decide +kernel
theorem dX7_append_46 : decode cX7_append 46 = .ok (.iconst 0, 1) := by decide +kernel
theorem dX7_append_47 : decode cX7_append 47 = .ok (.istore 4, 2) := by decide +kernel
theorem dX7_append_49 : decode cX7_append 49 = .ok (.iload 4, 2) := by decide +kernel
theorem dX7_append_51 : decode cX7_append 51 = .ok (.iconst 4, 1) := by decide +kernel
theorem dX7_append_52 : decode cX7_append 52 = .ok (.aload_n 1, 1) := by decide +kernel
theorem dX7_append_53 : decode cX7_append 53 = .ok (.getfield 24, 3) := by decide +kernel
theorem dX7_append_56 : decode cX7_append 56 = .ok (.imul, 1) := by decide +kernel
theorem dX7_append_57 : decode cX7_append 57 = .ok (.if_icmp .ge 51, 3) := by decide +kernel
theorem dX7_append_60 : decode cX7_append 60 = .ok (.aload_n 2, 1) := by decide +kernel
theorem dX7_append_61 : decode cX7_append 61 = .ok (.getfield 61, 3) := by decide +kernel
theorem dX7_append_64 : decode cX7_append 64 = .ok (.iload 4, 2) := by decide +kernel
theorem dX7_append_66 : decode cX7_append 66 = .ok (.iaload, 1) := by decide +kernel
theorem dX7_append_67 : decode cX7_append 67 = .ok (.istore 5, 2) := by decide +kernel
theorem dX7_append_69 : decode cX7_append 69 = .ok (.aload_n 0, 1) := by decide +kernel
theorem dX7_append_70 : decode cX7_append 70 = .ok (.getfield 15, 3) := by decide +kernel
theorem dX7_append_73 : decode cX7_append 73 = .ok (.iload_n 3, 1) := by decide +kernel
theorem dX7_append_74 : decode cX7_append 74 = .ok (.iload 4, 2) := by decide +kernel
theorem dX7_append_76 : decode cX7_append 76 = .ok (.iadd, 1) := by decide +kernel
theorem dX7_append_77 : decode cX7_append 77 = .ok (.iload 5, 2) := by decide +kernel
theorem dX7_append_79 : decode cX7_append 79 = .ok (.iload 4, 2) := by decide +kernel
theorem dX7_append_81 : decode cX7_append 81 = .ok (.if_icmp .ge 15, 3) := by decide +kernel
theorem dX7_append_84 : decode cX7_append 84 = .ok (.aload_n 0, 1) := by decide +kernel
theorem dX7_append_85 : decode cX7_append 85 = .ok (.getfield 15, 3) := by decide +kernel
theorem dX7_append_88 : decode cX7_append 88 = .ok (.iload_n 3, 1) := by decide +kernel
theorem dX7_append_89 : decode cX7_append 89 = .ok (.iload 5, 2) := by decide +kernel
theorem dX7_append_91 : decode cX7_append 91 = .ok (.iadd, 1) := by decide +kernel
theorem dX7_append_92 : decode cX7_append 92 = .ok (.iaload, 1) := by decide +kernel
theorem dX7_append_93 : decode cX7_append 93 = .ok (.goto 8, 3) := by decide +kernel
theorem dX7_append_96 : decode cX7_append 96 = .ok (.aload_n 0, 1) := by decide +kernel
theorem dX7_append_97 : decode cX7_append 97 = .ok (.iconst (-1), 1) := by decide +kernel
theorem dX7_append_98 : decode cX7_append 98 = .ok (.invokevirtual 66, 3) := by decide +kernel
theorem dX7_append_101 : decode cX7_append 101 = .ok (.iastore, 1) := by decide +kernel
theorem dX7_append_102 : decode cX7_append 102 = .ok (.iinc 4 1, 3) := by decide +kernel
theorem dX7_append_105 : decode cX7_append 105 = .ok (.goto (-56), 3) := by decide +kernel
theorem dX7_append_108 : decode cX7_append 108 = .ok (.return_, 1) := by decide +kernel
theorem dX7_remember_0 : decode cX7_remember 0 = .ok (.aload_n 0, 1) := by decide +kernel
theorem dX7_remember_1 : decode cX7_remember 1 = .ok (.getfield 70, 3) := by decide +kernel
theorem dX7_remember_4 : decode cX7_remember 4 = .ok (.ifnonnull 12, 3) := by decide +kernel
theorem dX7_remember_7 : decode cX7_remember 7 = .ok (.aload_n 0, 1) := by decide +kernel
theorem dX7_remember_8 : decode cX7_remember 8 = .ok (.sipush 1620, 3) := by decide +kernel
theorem dX7_remember_11 : decode cX7_remember 11 = .ok (.newarray .int, 2) := by decide +kernel
theorem dX7_remember_13 : decode cX7_remember 13 = .ok (.putfield 70, 3) := by decide +kernel
theorem dX7_remember_16 : decode cX7_remember 16 = .ok (.aload_n 0, 1) := by decide +kernel
theorem dX7_remember_17 : decode cX7_remember 17 = .ok (.getfield 73, 3) := by decide +kernel
theorem dX7_remember_20 : decode cX7_remember 20 = .ok (.sipush 162, 3) := by decide +kernel
theorem dX7_remember_23 : decode cX7_remember 23 = .ok (.imul, 1) := by decide +kernel
theorem dX7_remember_24 : decode cX7_remember 24 = .ok (.istore_n 1, 1) := by decide +kernel
theorem dX7_remember_25 : decode cX7_remember 25 = .ok (.aload_n 0, 1) := by decide +kernel
theorem dX7_remember_26 : decode cX7_remember 26 = .ok (.getfield 70, 3) := by decide +kernel
theorem dX7_remember_29 : decode cX7_remember 29 = .ok (.iload_n 1, 1) := by decide +kernel
theorem dX7_remember_30 : decode cX7_remember 30 = .ok (.aload_n 0, 1) := by decide +kernel
theorem dX7_remember_31 : decode cX7_remember 31 = .ok (.getfield 24, 3) := by decide +kernel
theorem dX7_remember_34 : decode cX7_remember 34 = .ok (.iastore, 1) := by decide +kernel
theorem dX7_remember_35 : decode cX7_remember 35 = .ok (.aload_n 0, 1) := by decide +kernel
theorem dX7_remember_36 : decode cX7_remember 36 = .ok (.getfield 70, 3) := by decide +kernel
theorem dX7_remember_39 : decode cX7_remember 39 = .ok (.iload_n 1, 1) := by decide +kernel
theorem dX7_remember_40 : decode cX7_remember 40 = .ok (.iconst 1, 1) := by decide +kernel
theorem dX7_remember_41 : decode cX7_remember 41 = .ok (.iadd, 1) := by decide +kernel
theorem dX7_remember_42 : decode cX7_remember 42 = .ok (.aload_n 0, 1) := by decide +kernel
theorem dX7_remember_43 : decode cX7_remember 43 = .ok (.getfield 28, 3) := by decide +kernel
theorem dX7_remember_46 : decode cX7_remember 46 = .ok (.iastore, 1) := by decide +kernel
theorem dX7_remember_47 : decode cX7_remember 47 = .ok (.aload_n 0, 1) := by decide +kernel
theorem dX7_remember_48 : decode cX7_remember 48 = .ok (.getfield 15, 3) := by decide +kernel
theorem dX7_remember_51 : decode cX7_remember 51 = .ok (.iconst 0, 1) := by decide +kernel
theorem dX7_remember_52 : decode cX7_remember 52 = .ok (.aload_n 0, 1) := by decide +kernel
theorem dX7_remember_53 : decode cX7_remember 53 = .ok (.getfield 70, 3) := by decide +kernel
theorem dX7_remember_56 : decode cX7_remember 56 = .ok (.iload_n 1, 1) := by decide +kernel
theorem dX7_remember_57 : decode cX7_remember 57 = .ok (.iconst 2, 1) := by decide +kernel
theorem dX7_remember_58 : decode cX7_remember 58 = .ok (.iadd, 1) := by decide +kernel
theorem dX7_remember_59 : decode cX7_remember 59 = .ok (.sipush 160, 3) := by decide +kernel
theorem dX7_remember_62 : decode cX7_remember 62 = .ok (.invokestatic 31, 3) := by decide +kernel
theorem dX7_remember_65 : decode cX7_remember 65 = .ok (.aload_n 0, 1) := by decide +kernel
theorem dX7_remember_66 : decode cX7_remember 66 = .ok (.aload_n 0, 1) := by decide +kernel
theorem dX7_remember_67 : decode cX7_remember 67 = .ok (.getfield 73, 3) := by decide +kernel
theorem dX7_remember_70 : decode cX7_remember 70 = .ok (.iconst 1, 1) := by decide +kernel
theorem dX7_remember_71 : decode cX7_remember 71 = .ok (.iadd, 1) := by decide +kernel
theorem dX7_remember_72 : decode cX7_remember 72 = .ok (.bipush 10, 2) := by decide +kernel
theorem dX7_remember_74 : decode cX7_remember 74 = .ok (.irem, 1) := by decide +kernel
theorem dX7_remember_75 : decode cX7_remember 75 = .ok (.putfield 73, 3) := by decide +kernel
theorem dX7_remember_78 : decode cX7_remember 78 = .ok (.aload_n 0, 1) := by decide +kernel
theorem dX7_remember_79 : decode cX7_remember 79 = .ok (.aload_n 0, 1) := by decide +kernel
theorem dX7_remember_80 : decode cX7_remember 80 = .ok (.getfield 76, 3) := by decide +kernel
theorem dX7_remember_83 : decode cX7_remember 83 = .ok (.iconst 1, 1) := by decide +kernel
theorem dX7_remember_84 : decode cX7_remember 84 = .ok (.iadd, 1) := by decide +kernel
theorem dX7_remember_85 : decode cX7_remember 85 = .ok (.bipush 10, 2) := by decide +kernel
theorem dX7_remember_87 : decode cX7_remember 87 = .ok (.invokestatic 79, 3) := by decide +kernel
theorem dX7_remember_90 : decode cX7_remember 90 = .ok (.putfield 76, 3) := by decide +kernel
theorem dX7_remember_93 : decode cX7_remember 93 = .ok (.return_, 1) := by decide +kernel
theorem dX7_forget_0 : decode cX7_forget 0 = .ok (.aload_n 0, 1) := by decide +kernel
theorem dX7_forget_1 : decode cX7_forget 1 = .ok (.iconst 0, 1) := by decide +kernel
theorem dX7_forget_2 : decode cX7_forget 2 = .ok (.putfield 76, 3) := by decide +kernel
theorem dX7_forget_5 : decode cX7_forget 5 = .ok (.return_, 1) := by decide +kernel
theorem dX7_goBack_0 : decode cX7_goBack 0 = .ok (.aload_n 0, 1) := by decide +kernel
theorem dX7_goBack_1 : decode cX7_goBack 1 = .ok (.getfield 70, 3) := by decide +kernel
theorem dX7_goBack_4 : decode cX7_goBack 4 = .ok (.ifnull 11, 3) := by decide +kernel
theorem dX7_goBack_7 : decode cX7_goBack 7 = .ok (.aload_n 0, 1) := by decide +kernel
theorem dX7_goBack_8 : decode cX7_goBack 8 = .ok (.getfield 76, 3) := by decide +kernel
theorem dX7_goBack_11 : decode cX7_goBack 11 = .ok (.iconst 1, 1) := by decide +kernel
theorem dX7_goBack_12 : decode cX7_goBack 12 = .ok (.if_icmp .ge 5, 3) := by decide +kernel
theorem dX7_goBack_15 : decode cX7_goBack 15 = .ok (.iconst 0, 1) := by decide +kernel
theorem dX7_goBack_16 : decode cX7_goBack 16 = .ok (.ireturn, 1) := by decide +kernel
theorem dX7_goBack_17 : decode cX7_goBack 17 = .ok (.aload_n 0, 1) := by decide +kernel
theorem dX7_goBack_18 : decode cX7_goBack 18 = .ok (.aload_n 0, 1) := by decide +kernel
theorem dX7_goBack_19 : decode cX7_goBack 19 = .ok (.getfield 73, 3) := by decide +kernel
theorem dX7_goBack_22 : decode cX7_goBack 22 = .ok (.bipush 10, 2) := by decide +kernel
theorem dX7_goBack_24 : decode cX7_goBack 24 = .ok (.iadd, 1) := by decide +kernel
theorem dX7_goBack_25 : decode cX7_goBack 25 = .ok (.iconst 1, 1) := by decide +kernel
theorem dX7_goBack_26 : decode cX7_goBack 26 = .ok (.isub, 1) := by decide +kernel
theorem dX7_goBack_27 : decode cX7_goBack 27 = .ok (.bipush 10, 2) := by decide +kernel
theorem dX7_goBack_29 : decode cX7_goBack 29 = .ok (.irem, 1) := by decide +kernel
theorem dX7_goBack_30 : decode cX7_goBack 30 = .ok (.putfield 73, 3) := by decide +kernel
theorem dX7_goBack_33 : decode cX7_goBack 33 = .ok (.aload_n 0, 1) := by decide +kernel
theorem dX7_goBack_34 : decode cX7_goBack 34 = .ok (.dup, 1) := by decide +kernel
theorem dX7_goBack_35 : decode cX7_goBack 35 = .ok (.getfield 76, 3) := by decide +kernel
theorem dX7_goBack_38 : decode cX7_goBack 38 = .ok (.iconst 1, 1) := by decide +kernel
theorem dX7_goBack_39 : decode cX7_goBack 39 = .ok (.isub, 1) := by decide +kernel
theorem dX7_goBack_40 : decode cX7_goBack 40 = .ok (.putfield 76, 3) := by decide +kernel
theorem dX7_goBack_43 : decode cX7_goBack 43 = .ok (.aload_n 0, 1) := by decide +kernel
theorem dX7_goBack_44 : decode cX7_goBack 44 = .ok (.getfield 73, 3) := by decide +kernel
theorem dX7_goBack_47 : decode cX7_goBack 47 = .ok (.sipush 162, 3) := by decide +kernel
theorem dX7_goBack_50 : decode cX7_goBack 50 = .ok (.imul, 1) := by decide +kernel
theorem dX7_goBack_51 : decode cX7_goBack 51 = .ok (.istore_n 1, 1) := by decide +kernel
theorem dX7_goBack_52 : decode cX7_goBack 52 = .ok (.aload_n 0, 1) := by decide +kernel
theorem dX7_goBack_53 : decode cX7_goBack 53 = .ok (.aload_n 0, 1) := by decide +kernel
theorem dX7_goBack_54 : decode cX7_goBack 54 = .ok (.getfield 70, 3) := by decide +kernel
theorem dX7_goBack_57 : decode cX7_goBack 57 = .ok (.iload_n 1, 1) := by decide +kernel
theorem dX7_goBack_58 : decode cX7_goBack 58 = .ok (.iaload, 1) := by decide +kernel
theorem dX7_goBack_59 : decode cX7_goBack 59 = .ok (.putfield 24, 3) := by decide +kernel
theorem dX7_goBack_62 : decode cX7_goBack 62 = .ok (.aload_n 0, 1) := by decide +kernel
theorem dX7_goBack_63 : decode cX7_goBack 63 = .ok (.aload_n 0, 1) := by decide +kernel
theorem dX7_goBack_64 : decode cX7_goBack 64 = .ok (.getfield 70, 3) := by decide +kernel
theorem dX7_goBack_67 : decode cX7_goBack 67 = .ok (.iload_n 1, 1) := by decide +kernel
theorem dX7_goBack_68 : decode cX7_goBack 68 = .ok (.iconst 1, 1) := by decide +kernel
theorem dX7_goBack_69 : decode cX7_goBack 69 = .ok (.iadd, 1) := by decide +kernel
theorem dX7_goBack_70 : decode cX7_goBack 70 = .ok (.iaload, 1) := by decide +kernel
theorem dX7_goBack_71 : decode cX7_goBack 71 = .ok (.putfield 28, 3) := by decide +kernel
theorem dX7_goBack_74 : decode cX7_goBack 74 = .ok (.aload_n 0, 1) := by decide +kernel
theorem dX7_goBack_75 : decode cX7_goBack 75 = .ok (.getfield 70, 3) := by decide +kernel
theorem dX7_goBack_78 : decode cX7_goBack 78 = .ok (.iload_n 1, 1) := by decide +kernel
theorem dX7_goBack_79 : decode cX7_goBack 79 = .ok (.iconst 2, 1) := by decide +kernel
theorem dX7_goBack_80 : decode cX7_goBack 80 = .ok (.iadd, 1) := by decide +kernel
theorem dX7_goBack_81 : decode cX7_goBack 81 = .ok (.aload_n 0, 1) := by decide +kernel
theorem dX7_goBack_82 : decode cX7_goBack 82 = .ok (.getfield 15, 3) := by decide +kernel
theorem dX7_goBack_85 : decode cX7_goBack 85 = .ok (.iconst 0, 1) := by decide +kernel
theorem dX7_goBack_86 : decode cX7_goBack 86 = .ok (.sipush 160, 3) := by decide +kernel
theorem dX7_goBack_89 : decode cX7_goBack 89 = .ok (.invokestatic 31, 3) := by decide +kernel
theorem dX7_goBack_92 : decode cX7_goBack 92 = .ok (.aload_n 0, 1) := by decide +kernel
theorem dX7_goBack_93 : decode cX7_goBack 93 = .ok (.getfield 9, 3) := by decide +kernel
theorem dX7_goBack_96 : decode cX7_goBack 96 = .ok (.iconst 0, 1) := by decide +kernel
theorem dX7_goBack_97 : decode cX7_goBack 97 = .ok (.aload_n 0, 1) := by decide +kernel
theorem dX7_goBack_98 : decode cX7_goBack 98 = .ok (.getfield 24, 3) := by decide +kernel
theorem dX7_goBack_101 : decode cX7_goBack 101 = .ok (.iconst 4, 1) := by decide +kernel
theorem dX7_goBack_102 : decode cX7_goBack 102 = .ok (.invokestatic 54, 3) := by decide +kernel
theorem dX7_goBack_105 : decode cX7_goBack 105 = .ok (.iconst 1, 1) := by decide +kernel
theorem dX7_goBack_106 : decode cX7_goBack 106 = .ok (.ireturn, 1) := by decide +kernel
theorem dX7_draw_0 : decode cX7_draw 0 = .ok (.aload_n 1, 1) := by decide +kernel
theorem dX7_draw_1 : decode cX7_draw 1 = .ok (.invokestatic 82, 3) := by decide +kernel
theorem dX7_draw_4 : decode cX7_draw 4 = .ok (.istore_n 2, 1) := by decide +kernel
theorem dX7_draw_5 : decode cX7_draw 5 = .ok (.iload_n 2, 1) := by decide +kernel
theorem dX7_draw_6 : decode cX7_draw 6 = .ok (.ifCond .lt 9, 3) := by decide +kernel
theorem dX7_draw_9 : decode cX7_draw 9 = .ok (.iload_n 2, 1) := by decide +kernel
theorem dX7_draw_10 : decode cX7_draw 10 = .ok (.bipush 80, 2) := by decide +kernel
theorem dX7_draw_12 : decode cX7_draw 12 = .ok (.if_icmp .le 5, 3) := by decide +kernel
theorem dX7_draw_15 : decode cX7_draw 15 = .ok (.iconst 0, 1) := by decide +kernel
theorem dX7_draw_16 : decode cX7_draw 16 = .ok (.ireturn, 1) := by decide +kernel
theorem dX7_draw_17 : decode cX7_draw 17 = .ok (.aload_n 0, 1) := by decide +kernel
theorem dX7_draw_18 : decode cX7_draw 18 = .ok (.invokevirtual 86, 3) := by decide +kernel
theorem dX7_draw_21 : decode cX7_draw 21 = .ok (.aload_n 0, 1) := by decide +kernel
theorem dX7_draw_22 : decode cX7_draw 22 = .ok (.bipush (-2), 2) := by decide +kernel
theorem dX7_draw_24 : decode cX7_draw 24 = .ok (.aload_n 1, 1) := by decide +kernel
theorem dX7_draw_25 : decode cX7_draw 25 = .ok (.getfield 89, 3) := by decide +kernel
theorem dX7_draw_28 : decode cX7_draw 28 = .ok (.aload_n 1, 1) := by decide +kernel
theorem dX7_draw_29 : decode cX7_draw 29 = .ok (.getfield 94, 3) := by decide +kernel
theorem dX7_draw_32 : decode cX7_draw 32 = .ok (.iconst 1, 1) := by decide +kernel
theorem dX7_draw_33 : decode cX7_draw 33 = .ok (.isub, 1) := by decide +kernel
theorem dX7_draw_34 : decode cX7_draw 34 = .ok (.iaload, 1) := by decide +kernel
theorem dX7_draw_35 : decode cX7_draw 35 = .ok (.isub, 1) := by decide +kernel
theorem dX7_draw_36 : decode cX7_draw 36 = .ok (.putfield 28, 3) := by decide +kernel
theorem dX7_draw_39 : decode cX7_draw 39 = .ok (.iconst 0, 1) := by decide +kernel
theorem dX7_draw_40 : decode cX7_draw 40 = .ok (.istore_n 3, 1) := by decide +kernel
theorem dX7_draw_41 : decode cX7_draw 41 = .ok (.iload_n 3, 1) := by decide +kernel
theorem dX7_draw_42 : decode cX7_draw 42 = .ok (.iload_n 2, 1) := by decide +kernel
theorem dX7_draw_43 : decode cX7_draw 43 = .ok (.iconst 2, 1) := by decide +kernel
theorem dX7_draw_44 : decode cX7_draw 44 = .ok (.idiv, 1) := by decide +kernel
theorem dX7_draw_45 : decode cX7_draw 45 = .ok (.if_icmp .ge 17, 3) := by decide +kernel
theorem dX7_draw_48 : decode cX7_draw 48 = .ok (.aload_n 0, 1) := by decide +kernel
theorem dX7_draw_49 : decode cX7_draw 49 = .ok (.iconst (-1), 1) := by decide +kernel
theorem dX7_draw_50 : decode cX7_draw 50 = .ok (.iconst (-1), 1) := by decide +kernel
theorem dX7_draw_51 : decode cX7_draw 51 = .ok (.iconst (-1), 1) := by decide +kernel
theorem dX7_draw_52 : decode cX7_draw 52 = .ok (.iconst (-1), 1) := by decide +kernel
theorem dX7_draw_53 : decode cX7_draw 53 = .ok (.invokevirtual 57, 3) := by decide +kernel
theorem dX7_draw_56 : decode cX7_draw 56 = .ok (.iinc 3 1, 3) := by decide +kernel
theorem dX7_draw_59 : decode cX7_draw 59 = .ok (.goto (-18), 3) := by decide +kernel
theorem dX7_draw_62 : decode cX7_draw 62 = .ok (.iconst 0, 1) := by decide +kernel
theorem dX7_draw_63 : decode cX7_draw 63 = .ok (.istore_n 3, 1) := by decide +kernel
theorem dX7_draw_64 : decode cX7_draw 64 = .ok (.iconst 0, 1) := by decide +kernel
theorem dX7_draw_65 : decode cX7_draw 65 = .ok (.istore 4, 2) := by decide +kernel
theorem dX7_draw_67 : decode cX7_draw 67 = .ok (.iconst 0, 1) := by decide +kernel
theorem dX7_draw_68 : decode cX7_draw 68 = .ok (.istore 5, 2) := by decide +kernel
theorem dX7_draw_70 : decode cX7_draw 70 = .ok (.iload 5, 2) := by decide +kernel
theorem dX7_draw_72 : decode cX7_draw 72 = .ok (.aload_n 1, 1) := by decide +kernel
theorem dX7_draw_73 : decode cX7_draw 73 = .ok (.getfield 94, 3) := by decide +kernel
theorem dX7_draw_76 : decode cX7_draw 76 = .ok (.iconst 1, 1) := by decide +kernel
theorem dX7_draw_77 : decode cX7_draw 77 = .ok (.isub, 1) := by decide +kernel
theorem dX7_draw_78 : decode cX7_draw 78 = .ok (.if_icmp .ge 90, 3) := by decide +kernel
theorem dX7_draw_81 : decode cX7_draw 81 = .ok (.aload_n 1, 1) := by decide +kernel
theorem dX7_draw_82 : decode cX7_draw 82 = .ok (.getfield 89, 3) := by decide +kernel
theorem dX7_draw_85 : decode cX7_draw 85 = .ok (.iload 5, 2) := by decide +kernel
theorem dX7_draw_87 : decode cX7_draw 87 = .ok (.iaload, 1) := by decide +kernel
theorem dX7_draw_88 : decode cX7_draw 88 = .ok (.istore 6, 2) := by decide +kernel
theorem dX7_draw_90 : decode cX7_draw 90 = .ok (.iload 6, 2) := by decide +kernel
theorem dX7_draw_92 : decode cX7_draw 92 = .ok (.ifCond .ge 30, 3) := by decide +kernel
theorem dX7_draw_95 : decode cX7_draw 95 = .ok (.aload_n 0, 1) := by decide +kernel
theorem dX7_draw_96 : decode cX7_draw 96 = .ok (.aload_n 1, 1) := by decide +kernel
theorem dX7_draw_97 : decode cX7_draw 97 = .ok (.getfield 89, 3) := by decide +kernel
theorem dX7_draw_100 : decode cX7_draw 100 = .ok (.iload 5, 2) := by decide +kernel
theorem dX7_draw_102 : decode cX7_draw 102 = .ok (.iload_n 3, 1) := by decide +kernel
theorem dX7_draw_103 : decode cX7_draw 103 = .ok (.isub, 1) := by decide +kernel
theorem dX7_draw_104 : decode cX7_draw 104 = .ok (.iload 4, 2) := by decide +kernel
theorem dX7_draw_106 : decode cX7_draw 106 = .ok (.iadd, 1) := by decide +kernel
theorem dX7_draw_107 : decode cX7_draw 107 = .ok (.iaload, 1) := by decide +kernel
theorem dX7_draw_108 : decode cX7_draw 108 = .ok (.iload 4, 2) := by decide +kernel
theorem dX7_draw_110 : decode cX7_draw 110 = .ok (.iload_n 3, 1) := by decide +kernel
theorem dX7_draw_111 : decode cX7_draw 111 = .ok (.iconst 1, 1) := by decide +kernel
theorem dX7_draw_112 : decode cX7_draw 112 = .ok (.isub, 1) := by decide +kernel
theorem dX7_draw_113 : decode cX7_draw 113 = .ok (.invokevirtual 97, 3) := by decide +kernel
theorem dX7_draw_116 : decode cX7_draw 116 = .ok (.iload_n 3, 1) := by decide +kernel
theorem dX7_draw_117 : decode cX7_draw 117 = .ok (.istore 4, 2) := by decide +kernel
theorem dX7_draw_119 : decode cX7_draw 119 = .ok (.goto 43, 3) := by decide +kernel
theorem dX7_draw_122 : decode cX7_draw 122 = .ok (.aload_n 1, 1) := by decide +kernel
theorem dX7_draw_123 : decode cX7_draw 123 = .ok (.iload 6, 2) := by decide +kernel
theorem dX7_draw_125 : decode cX7_draw 125 = .ok (.iconst 2, 1) := by decide +kernel
theorem dX7_draw_126 : decode cX7_draw 126 = .ok (.ixor, 1) := by decide +kernel
theorem dX7_draw_127 : decode cX7_draw 127 = .ok (.invokevirtual 101, 3) := by decide +kernel
theorem dX7_draw_130 : decode cX7_draw 130 = .ok (.ifCond .eq 27, 3) := by decide +kernel
theorem dX7_draw_133 : decode cX7_draw 133 = .ok (.aload_n 0, 1) := by decide +kernel
theorem dX7_draw_134 : decode cX7_draw 134 = .ok (.iload 6, 2) := by decide +kernel
theorem dX7_draw_136 : decode cX7_draw 136 = .ok (.iload_n 3, 1) := by decide +kernel
theorem dX7_draw_137 : decode cX7_draw 137 = .ok (.iload 4, 2) := by decide +kernel
theorem dX7_draw_139 : decode cX7_draw 139 = .ok (.if_icmp .ne 8, 3) := by decide +kernel
theorem dX7_draw_142 : decode cX7_draw 142 = .ok (.bipush 100, 2) := by decide +kernel
theorem dX7_draw_144 : decode cX7_draw 144 = .ok (.goto 6, 3) := by decide +kernel
theorem dX7_draw_147 : decode cX7_draw 147 = .ok (.iload_n 3, 1) := by decide +kernel
theorem dX7_draw_148 : decode cX7_draw 148 = .ok (.iconst 1, 1) := by decide +kernel
theorem dX7_draw_149 : decode cX7_draw 149 = .ok (.isub, 1) := by decide +kernel
theorem dX7_draw_150 : decode cX7_draw 150 = .ok (.iload_n 3, 1) := by decide +kernel
theorem dX7_draw_151 : decode cX7_draw 151 = .ok (.invokevirtual 104, 3) := by decide +kernel
theorem dX7_draw_154 : decode cX7_draw 154 = .ok (.ifCond .ne 5, 3) := by decide +kernel
theorem dX7_draw_157 : decode cX7_draw 157 = .ok (.iconst 0, 1) := by decide +kernel
theorem dX7_draw_158 : decode cX7_draw 158 = .ok (.ireturn, 1) := by decide +kernel
theorem dX7_draw_159 : decode cX7_draw 159 = .ok (.iinc 3 1, 3) := by decide +kernel
theorem dX7_draw_162 : decode cX7_draw 162 = .ok (.iinc 5 1, 3) := by decide +kernel
theorem dX7_draw_165 : decode cX7_draw 165 = .ok (.goto (-95), 3) := by decide +kernel
theorem dX7_draw_168 : decode cX7_draw 168 = .ok (.iconst 1, 1) := by decide +kernel
theorem dX7_draw_169 : decode cX7_draw 169 = .ok (.ireturn, 1) := by decide +kernel
theorem dX7_countPasses_0 : decode cX7_countPasses 0 = .ok (.aload_n 0, 1) := by decide +kernel
theorem dX7_countPasses_1 : decode cX7_countPasses 1 = .ok (.getfield 94, 3) := by decide +kernel
theorem dX7_countPasses_4 : decode cX7_countPasses 4 = .ok (.iconst 1, 1) := by decide +kernel
theorem dX7_countPasses_5 : decode cX7_countPasses 5 = .ok (.isub, 1) := by decide +kernel
theorem dX7_countPasses_6 : decode cX7_countPasses 6 = .ok (.istore_n 1, 1) := by decide +kernel
theorem dX7_countPasses_7 : decode cX7_countPasses 7 = .ok (.iload_n 1, 1) := by decide +kernel
theorem dX7_countPasses_8 : decode cX7_countPasses 8 = .ok (.ifCond .lt 25, 3) := by decide +kernel
theorem dX7_countPasses_11 : decode cX7_countPasses 11 = .ok (.aload_n 0, 1) := by decide +kernel
theorem dX7_countPasses_12 : decode cX7_countPasses 12 = .ok (.getfield 89, 3) := by decide +kernel
theorem dX7_countPasses_15 : decode cX7_countPasses 15 = .ok (.iload_n 1, 1) := by decide +kernel
theorem dX7_countPasses_16 : decode cX7_countPasses 16 = .ok (.iaload, 1) := by decide +kernel
theorem dX7_countPasses_17 : decode cX7_countPasses 17 = .ok (.bipush (-2), 2) := by decide +kernel
theorem dX7_countPasses_19 : decode cX7_countPasses 19 = .ok (.if_icmp .gt 14, 3) := by decide +kernel
theorem dX7_countPasses_22 : decode cX7_countPasses 22 = .ok (.aload_n 0, 1) := by decide +kernel
theorem dX7_countPasses_23 : decode cX7_countPasses 23 = .ok (.getfield 89, 3) := by decide +kernel
theorem dX7_countPasses_26 : decode cX7_countPasses 26 = .ok (.iload_n 1, 1) := by decide +kernel
theorem dX7_countPasses_27 : decode cX7_countPasses 27 = .ok (.iaload, 1) := by decide +kernel
theorem dX7_countPasses_28 : decode cX7_countPasses 28 = .ok (.bipush (-11), 2) := by decide +kernel
theorem dX7_countPasses_30 : decode cX7_countPasses 30 = .ok (.if_icmp .ge 5, 3) := by decide +kernel
theorem dX7_countPasses_33 : decode cX7_countPasses 33 = .ok (.iconst (-1), 1) := by decide +kernel
theorem dX7_countPasses_34 : decode cX7_countPasses 34 = .ok (.ireturn, 1) := by decide +kernel
theorem dX7_countPasses_35 : decode cX7_countPasses 35 = .ok (.iconst 0, 1) := by decide +kernel
theorem dX7_countPasses_36 : decode cX7_countPasses 36 = .ok (.istore_n 2, 1) := by decide +kernel
theorem dX7_countPasses_37 : decode cX7_countPasses 37 = .ok (.iconst 0, 1) := by decide +kernel
theorem dX7_countPasses_38 : decode cX7_countPasses 38 = .ok (.istore_n 3, 1) := by decide +kernel
theorem dX7_countPasses_39 : decode cX7_countPasses 39 = .ok (.iconst 0, 1) := by decide +kernel
theorem dX7_countPasses_40 : decode cX7_countPasses 40 = .ok (.istore 4, 2) := by decide +kernel
theorem dX7_countPasses_42 : decode cX7_countPasses 42 = .ok (.iload 4, 2) := by decide +kernel
theorem dX7_countPasses_44 : decode cX7_countPasses 44 = .ok (.iload_n 1, 1) := by decide +kernel
theorem dX7_countPasses_45 : decode cX7_countPasses 45 = .ok (.if_icmp .ge 59, 3) := by decide +kernel
theorem dX7_countPasses_48 : decode cX7_countPasses 48 = .ok (.aload_n 0, 1) := by decide +kernel
theorem dX7_countPasses_49 : decode cX7_countPasses 49 = .ok (.getfield 89, 3) := by decide +kernel
theorem dX7_countPasses_52 : decode cX7_countPasses 52 = .ok (.iload 4, 2) := by decide +kernel
theorem dX7_countPasses_54 : decode cX7_countPasses 54 = .ok (.iaload, 1) := by decide +kernel
theorem dX7_countPasses_55 : decode cX7_countPasses 55 = .ok (.istore 5, 2) := by decide +kernel
theorem dX7_countPasses_57 : decode cX7_countPasses 57 = .ok (.iload 5, 2) := by decide +kernel
theorem dX7_countPasses_59 : decode cX7_countPasses 59 = .ok (.iconst (-1), 1) := by decide +kernel
theorem dX7_countPasses_60 : decode cX7_countPasses 60 = .ok (.if_icmp .lt 13, 3) := by decide +kernel
theorem dX7_countPasses_63 : decode cX7_countPasses 63 = .ok (.iload 5, 2) := by decide +kernel
theorem dX7_countPasses_65 : decode cX7_countPasses 65 = .ok (.iconst (-1), 1) := by decide +kernel
theorem dX7_countPasses_66 : decode cX7_countPasses 66 = .ok (.if_icmp .ne 9, 3) := by decide +kernel
theorem dX7_countPasses_69 : decode cX7_countPasses 69 = .ok (.iload_n 3, 1) := by decide +kernel
theorem dX7_countPasses_70 : decode cX7_countPasses 70 = .ok (.ifCond .ne 5, 3) := by decide +kernel
theorem dX7_countPasses_73 : decode cX7_countPasses 73 = .ok (.iconst (-1), 1) := by decide +kernel
theorem dX7_countPasses_74 : decode cX7_countPasses 74 = .ok (.ireturn, 1) := by decide +kernel
theorem dX7_countPasses_75 : decode cX7_countPasses 75 = .ok (.iload 5, 2) := by decide +kernel
theorem dX7_countPasses_77 : decode cX7_countPasses 77 = .ok (.ifCond .lt 7, 3) := by decide +kernel
theorem dX7_countPasses_80 : decode cX7_countPasses 80 = .ok (.iconst 1, 1) := by decide +kernel
theorem dX7_countPasses_81 : decode cX7_countPasses 81 = .ok (.goto 4, 3) := by decide +kernel
theorem dX7_countPasses_84 : decode cX7_countPasses 84 = .ok (.iconst 0, 1) := by decide +kernel
theorem dX7_countPasses_85 : decode cX7_countPasses 85 = .ok (.istore_n 3, 1) := by decide +kernel
theorem dX7_countPasses_86 : decode cX7_countPasses 86 = .ok (.iload_n 2, 1) := by decide +kernel
theorem dX7_countPasses_87 : decode cX7_countPasses 87 = .ok (.iload_n 3, 1) := by decide +kernel
theorem dX7_countPasses_88 : decode cX7_countPasses 88 = .ok (.ifCond .eq 7, 3) := by decide +kernel
theorem dX7_countPasses_91 : decode cX7_countPasses 91 = .ok (.iconst 1, 1) := by decide +kernel
theorem dX7_countPasses_92 : decode cX7_countPasses 92 = .ok (.goto 4, 3) := by decide +kernel
theorem dX7_countPasses_95 : decode cX7_countPasses 95 = .ok (.iconst 0, 1) := by decide +kernel
theorem dX7_countPasses_96 : decode cX7_countPasses 96 = .ok (.iadd, 1) := by decide +kernel
theorem dX7_countPasses_97 : decode cX7_countPasses 97 = .ok (.istore_n 2, 1) := by decide +kernel
theorem dX7_countPasses_98 : decode cX7_countPasses 98 = .ok (.iinc 4 1, 3) := by decide +kernel
theorem dX7_countPasses_101 : decode cX7_countPasses 101 = .ok (.goto (-59), 3) := by decide +kernel
theorem dX7_countPasses_104 : decode cX7_countPasses 104 = .ok (.iload_n 3, 1) := by decide +kernel
theorem dX7_countPasses_105 : decode cX7_countPasses 105 = .ok (.ifCond .eq 7, 3) := by decide +kernel
theorem dX7_countPasses_108 : decode cX7_countPasses 108 = .ok (.iconst (-1), 1) := by decide +kernel
theorem dX7_countPasses_109 : decode cX7_countPasses 109 = .ok (.goto 4, 3) := by decide +kernel
theorem dX7_countPasses_112 : decode cX7_countPasses 112 = .ok (.iload_n 2, 1) := by decide +kernel
theorem dX7_countPasses_113 : decode cX7_countPasses 113 = .ok (.ireturn, 1) := by decide +kernel
theorem dX7_drawPass_0 : decode cX7_drawPass 0 = .ok (.aload_n 0, 1) := by decide +kernel
theorem dX7_drawPass_1 : decode cX7_drawPass 1 = .ok (.iload_n 1, 1) := by decide +kernel
theorem dX7_drawPass_2 : decode cX7_drawPass 2 = .ok (.iconst 2, 1) := by decide +kernel
theorem dX7_drawPass_3 : decode cX7_drawPass 3 = .ok (.ishr, 1) := by decide +kernel
theorem dX7_drawPass_4 : decode cX7_drawPass 4 = .ok (.invokevirtual 50, 3) := by decide +kernel
theorem dX7_drawPass_7 : decode cX7_drawPass 7 = .ok (.ifCond .ne 5, 3) := by decide +kernel
theorem dX7_drawPass_10 : decode cX7_drawPass 10 = .ok (.iconst 0, 1) := by decide +kernel
theorem dX7_drawPass_11 : decode cX7_drawPass 11 = .ok (.ireturn, 1) := by decide +kernel
theorem dX7_drawPass_12 : decode cX7_drawPass 12 = .ok (.iload_n 1, 1) := by decide +kernel
theorem dX7_drawPass_13 : decode cX7_drawPass 13 = .ok (.invokestatic 108, 3) := by decide +kernel
theorem dX7_drawPass_16 : decode cX7_drawPass 16 = .ok (.istore 4, 2) := by decide +kernel
theorem dX7_drawPass_18 : decode cX7_drawPass 18 = .ok (.aload_n 0, 1) := by decide +kernel
theorem dX7_drawPass_19 : decode cX7_drawPass 19 = .ok (.getfield 15, 3) := by decide +kernel
theorem dX7_drawPass_22 : decode cX7_drawPass 22 = .ok (.iload 4, 2) := by decide +kernel
theorem dX7_drawPass_24 : decode cX7_drawPass 24 = .ok (.iaload, 1) := by decide +kernel
theorem dX7_drawPass_25 : decode cX7_drawPass 25 = .ok (.iconst (-1), 1) := by decide +kernel
theorem dX7_drawPass_26 : decode cX7_drawPass 26 = .ok (.if_icmp .eq 5, 3) := by decide +kernel
theorem dX7_drawPass_29 : decode cX7_drawPass 29 = .ok (.iconst 0, 1) := by decide +kernel
theorem dX7_drawPass_30 : decode cX7_drawPass 30 = .ok (.ireturn, 1) := by decide +kernel
theorem dX7_drawPass_31 : decode cX7_drawPass 31 = .ok (.aload_n 0, 1) := by decide +kernel
theorem dX7_drawPass_32 : decode cX7_drawPass 32 = .ok (.getfield 15, 3) := by decide +kernel
theorem dX7_drawPass_35 : decode cX7_drawPass 35 = .ok (.iload 4, 2) := by decide +kernel
theorem dX7_drawPass_37 : decode cX7_drawPass 37 = .ok (.iload_n 2, 1) := by decide +kernel
theorem dX7_drawPass_38 : decode cX7_drawPass 38 = .ok (.iastore, 1) := by decide +kernel
theorem dX7_drawPass_39 : decode cX7_drawPass 39 = .ok (.aload_n 0, 1) := by decide +kernel
theorem dX7_drawPass_40 : decode cX7_drawPass 40 = .ok (.getfield 15, 3) := by decide +kernel
theorem dX7_drawPass_43 : decode cX7_drawPass 43 = .ok (.iload 4, 2) := by decide +kernel
theorem dX7_drawPass_45 : decode cX7_drawPass 45 = .ok (.iconst 2, 1) := by decide +kernel
theorem dX7_drawPass_46 : decode cX7_drawPass 46 = .ok (.invokestatic 43, 3) := by decide +kernel
theorem dX7_drawPass_49 : decode cX7_drawPass 49 = .ok (.iload_n 3, 1) := by decide +kernel
theorem dX7_drawPass_50 : decode cX7_drawPass 50 = .ok (.iastore, 1) := by decide +kernel
theorem dX7_drawPass_51 : decode cX7_drawPass 51 = .ok (.iconst 1, 1) := by decide +kernel
theorem dX7_drawPass_52 : decode cX7_drawPass 52 = .ok (.ireturn, 1) := by decide +kernel
theorem dX7_entryOf_0 : decode cX7_entryOf 0 = .ok (.iload_n 0, 1) := by decide +kernel
theorem dX7_entryOf_1 : decode cX7_entryOf 1 = .ok (.bipush (-4), 2) := by decide +kernel
theorem dX7_entryOf_3 : decode cX7_entryOf 3 = .ok (.iand, 1) := by decide +kernel
theorem dX7_entryOf_4 : decode cX7_entryOf 4 = .ok (.istore_n 1, 1) := by decide +kernel
theorem dX7_entryOf_5 : decode cX7_entryOf 5 = .ok (.iload_n 0, 1) := by decide +kernel
theorem dX7_entryOf_6 : decode cX7_entryOf 6 = .ok (.iconst 2, 1) := by decide +kernel
theorem dX7_entryOf_7 : decode cX7_entryOf 7 = .ok (.iand, 1) := by decide +kernel
theorem dX7_entryOf_8 : decode cX7_entryOf 8 = .ok (.ifCond .ne 5, 3) := by decide +kernel
theorem dX7_entryOf_11 : decode cX7_entryOf 11 = .ok (.iload_n 1, 1) := by decide +kernel
theorem dX7_entryOf_12 : decode cX7_entryOf 12 = .ok (.ireturn, 1) := by decide +kernel
theorem dX7_entryOf_13 : decode cX7_entryOf 13 = .ok (.iload_n 0, 1) := by decide +kernel
theorem dX7_entryOf_14 : decode cX7_entryOf 14 = .ok (.iconst 1, 1) := by decide +kernel
theorem dX7_entryOf_15 : decode cX7_entryOf 15 = .ok (.iand, 1) := by decide +kernel
theorem dX7_entryOf_16 : decode cX7_entryOf 16 = .ok (.iconst 1, 1) := by decide +kernel
theorem dX7_entryOf_17 : decode cX7_entryOf 17 = .ok (.if_icmp .ne 9, 3) := by decide +kernel
theorem dX7_entryOf_20 : decode cX7_entryOf 20 = .ok (.iload_n 1, 1) := by decide +kernel
theorem dX7_entryOf_21 : decode cX7_entryOf 21 = .ok (.iconst 3, 1) := by decide +kernel
theorem dX7_entryOf_22 : decode cX7_entryOf 22 = .ok (.iadd, 1) := by decide +kernel
theorem dX7_entryOf_23 : decode cX7_entryOf 23 = .ok (.goto 6, 3) := by decide +kernel
theorem dX7_entryOf_26 : decode cX7_entryOf 26 = .ok (.iload_n 1, 1) := by decide +kernel
theorem dX7_entryOf_27 : decode cX7_entryOf 27 = .ok (.iconst 1, 1) := by decide +kernel
theorem dX7_entryOf_28 : decode cX7_entryOf 28 = .ok (.iadd, 1) := by decide +kernel
theorem dX7_entryOf_29 : decode cX7_entryOf 29 = .ok (.ireturn, 1) := by decide +kernel
theorem dX7_closePiece_0 : decode cX7_closePiece 0 = .ok (.iload_n 1, 1) := by decide +kernel
theorem dX7_closePiece_1 : decode cX7_closePiece 1 = .ok (.invokestatic 108, 3) := by decide +kernel
theorem dX7_closePiece_4 : decode cX7_closePiece 4 = .ok (.istore 4, 2) := by decide +kernel
theorem dX7_closePiece_6 : decode cX7_closePiece 6 = .ok (.iload_n 2, 1) := by decide +kernel
theorem dX7_closePiece_7 : decode cX7_closePiece 7 = .ok (.iload_n 3, 1) := by decide +kernel
theorem dX7_closePiece_8 : decode cX7_closePiece 8 = .ok (.if_icmp .gt 22, 3) := by decide +kernel
theorem dX7_closePiece_11 : decode cX7_closePiece 11 = .ok (.aload_n 0, 1) := by decide +kernel
theorem dX7_closePiece_12 : decode cX7_closePiece 12 = .ok (.iload 4, 2) := by decide +kernel
theorem dX7_closePiece_14 : decode cX7_closePiece 14 = .ok (.iconst 2, 1) := by decide +kernel
theorem dX7_closePiece_15 : decode cX7_closePiece 15 = .ok (.ishr, 1) := by decide +kernel
theorem dX7_closePiece_16 : decode cX7_closePiece 16 = .ok (.invokevirtual 50, 3) := by decide +kernel
theorem dX7_closePiece_19 : decode cX7_closePiece 19 = .ok (.ifCond .eq 11, 3) := by decide +kernel
theorem dX7_closePiece_22 : decode cX7_closePiece 22 = .ok (.aload_n 0, 1) := by decide +kernel
theorem dX7_closePiece_23 : decode cX7_closePiece 23 = .ok (.getfield 15, 3) := by decide +kernel
theorem dX7_closePiece_26 : decode cX7_closePiece 26 = .ok (.iload 4, 2) := by decide +kernel
theorem dX7_closePiece_28 : decode cX7_closePiece 28 = .ok (.iload_n 3, 1) := by decide +kernel
theorem dX7_closePiece_29 : decode cX7_closePiece 29 = .ok (.iastore, 1) := by decide +kernel
theorem dX7_closePiece_30 : decode cX7_closePiece 30 = .ok (.return_, 1) := by decide +kernel
theorem dX7_mixInto_0 : decode cX7_mixInto 0 = .ok (.ldc2_w 111, 3) := by decide +kernel
theorem dX7_mixInto_3 : decode cX7_mixInto 3 = .ok (.lload_n 1, 1) := by decide +kernel
theorem dX7_mixInto_4 : decode cX7_mixInto 4 = .ok (.lmul, 1) := by decide +kernel
theorem dX7_mixInto_5 : decode cX7_mixInto 5 = .ok (.aload_n 0, 1) := by decide +kernel
theorem dX7_mixInto_6 : decode cX7_mixInto 6 = .ok (.getfield 28, 3) := by decide +kernel
theorem dX7_mixInto_9 : decode cX7_mixInto 9 = .ok (.i2l, 1) := by decide +kernel
theorem dX7_mixInto_10 : decode cX7_mixInto 10 = .ok (.ladd, 1) := by decide +kernel
theorem dX7_mixInto_11 : decode cX7_mixInto 11 = .ok (.lstore_n 1, 1) := by decide +kernel
theorem dX7_mixInto_12 : decode cX7_mixInto 12 = .ok (.iconst 0, 1) := by decide +kernel
theorem dX7_mixInto_13 : decode cX7_mixInto 13 = .ok (.istore_n 3, 1) := by decide +kernel
theorem dX7_mixInto_14 : decode cX7_mixInto 14 = .ok (.iload_n 3, 1) := by decide +kernel
theorem dX7_mixInto_15 : decode cX7_mixInto 15 = .ok (.aload_n 0, 1) := by decide +kernel
theorem dX7_mixInto_16 : decode cX7_mixInto 16 = .ok (.getfield 24, 3) := by decide +kernel
theorem dX7_mixInto_19 : decode cX7_mixInto 19 = .ok (.if_icmp .ge 62, 3) := by decide +kernel
theorem dX7_mixInto_22 : decode cX7_mixInto 22 = .ok (.ldc2_w 111, 3) := by decide +kernel
theorem dX7_mixInto_25 : decode cX7_mixInto 25 = .ok (.lload_n 1, 1) := by decide +kernel
theorem dX7_mixInto_26 : decode cX7_mixInto 26 = .ok (.lmul, 1) := by decide +kernel
theorem dX7_mixInto_27 : decode cX7_mixInto 27 = .ok (.aload_n 0, 1) := by decide +kernel
theorem dX7_mixInto_28 : decode cX7_mixInto 28 = .ok (.getfield 9, 3) := by decide +kernel
theorem dX7_mixInto_31 : decode cX7_mixInto 31 = .ok (.iload_n 3, 1) := by decide +kernel
theorem dX7_mixInto_32 : decode cX7_mixInto 32 = .ok (.iaload, 1) := by decide +kernel
theorem dX7_mixInto_33 : decode cX7_mixInto 33 = .ok (.i2l, 1) := by decide +kernel
theorem dX7_mixInto_34 : decode cX7_mixInto 34 = .ok (.ladd, 1) := by decide +kernel
theorem dX7_mixInto_35 : decode cX7_mixInto 35 = .ok (.lstore_n 1, 1) := by decide +kernel
theorem dX7_mixInto_36 : decode cX7_mixInto 36 = .ok (.iconst 0, 1) := by decide +kernel
theorem dX7_mixInto_37 : decode cX7_mixInto 37 = .ok (.istore 4, 2) := by decide +kernel
theorem dX7_mixInto_39 : decode cX7_mixInto 39 = .ok (.iload 4, 2) := by decide +kernel
theorem dX7_mixInto_41 : decode cX7_mixInto 41 = .ok (.aload_n 0, 1) := by decide +kernel
theorem dX7_mixInto_42 : decode cX7_mixInto 42 = .ok (.getfield 9, 3) := by decide +kernel
theorem dX7_mixInto_45 : decode cX7_mixInto 45 = .ok (.iload_n 3, 1) := by decide +kernel
theorem dX7_mixInto_46 : decode cX7_mixInto 46 = .ok (.iaload, 1) := by decide +kernel
theorem dX7_mixInto_47 : decode cX7_mixInto 47 = .ok (.if_icmp .ge 28, 3) := by decide +kernel
theorem dX7_mixInto_50 : decode cX7_mixInto 50 = .ok (.ldc2_w 111, 3) := by decide +kernel
theorem dX7_mixInto_53 : decode cX7_mixInto 53 = .ok (.lload_n 1, 1) := by decide +kernel
theorem dX7_mixInto_54 : decode cX7_mixInto 54 = .ok (.lmul, 1) := by decide +kernel
theorem dX7_mixInto_55 : decode cX7_mixInto 55 = .ok (.aload_n 0, 1) := by decide +kernel
theorem dX7_mixInto_56 : decode cX7_mixInto 56 = .ok (.getfield 15, 3) := by decide +kernel
theorem dX7_mixInto_59 : decode cX7_mixInto 59 = .ok (.iconst 4, 1) := by decide +kernel
theorem dX7_mixInto_60 : decode cX7_mixInto 60 = .ok (.iload_n 3, 1) := by decide +kernel
theorem dX7_mixInto_61 : decode cX7_mixInto 61 = .ok (.imul, 1) := by decide +kernel
theorem dX7_mixInto_62 : decode cX7_mixInto 62 = .ok (.iload 4, 2) := by decide +kernel
theorem dX7_mixInto_64 : decode cX7_mixInto 64 = .ok (.iadd, 1) := by decide +kernel
theorem dX7_mixInto_65 : decode cX7_mixInto 65 = .ok (.iaload, 1) := by decide +kernel
theorem dX7_mixInto_66 : decode cX7_mixInto 66 = .ok (.i2l, 1) := by decide +kernel
theorem dX7_mixInto_67 : decode cX7_mixInto 67 = .ok (.ladd, 1) := by decide +kernel
theorem dX7_mixInto_68 : decode cX7_mixInto 68 = .ok (.lstore_n 1, 1) := by decide +kernel
theorem dX7_mixInto_69 : decode cX7_mixInto 69 = .ok (.iinc 4 1, 3) := by decide +kernel
theorem dX7_mixInto_72 : decode cX7_mixInto 72 = .ok (.goto (-33), 3) := by decide +kernel
theorem dX7_mixInto_75 : decode cX7_mixInto 75 = .ok (.iinc 3 1, 3) := by decide +kernel
theorem dX7_mixInto_78 : decode cX7_mixInto 78 = .ok (.goto (-64), 3) := by decide +kernel
theorem dX7_mixInto_81 : decode cX7_mixInto 81 = .ok (.lload_n 1, 1) := by decide +kernel
theorem dX7_mixInto_82 : decode cX7_mixInto 82 = .ok (.lreturn, 1) := by decide +kernel
theorem dX8_init_0 : decode cX8_init 0 = .ok (.aload_n 0, 1) := by decide +kernel
theorem dX8_init_1 : decode cX8_init 1 = .ok (.invokespecial 5, 3) := by decide +kernel
theorem dX8_init_4 : decode cX8_init 4 = .ok (.aload_n 0, 1) := by decide +kernel
theorem dX8_init_5 : decode cX8_init 5 = .ok (.bipush 100, 2) := by decide +kernel
theorem dX8_init_7 : decode cX8_init 7 = .ok (.anewarray 1, 3) := by decide +kernel
theorem dX8_init_10 : decode cX8_init 10 = .ok (.putfield 11, 3) := by decide +kernel
theorem dX8_init_13 : decode cX8_init 13 = .ok (.aload_n 0, 1) := by decide +kernel
theorem dX8_init_14 : decode cX8_init 14 = .ok (.new 1, 3) := by decide +kernel
theorem dX8_init_17 : decode cX8_init 17 = .ok (.dup, 1) := by decide +kernel
theorem dX8_init_18 : decode cX8_init 18 = .ok (.invokespecial 17, 3) := by decide +kernel
theorem dX8_init_21 : decode cX8_init 21 = .ok (.putfield 18, 3) := by decide +kernel
theorem dX8_init_24 : decode cX8_init 24 = .ok (.aload_n 0, 1) := by decide +kernel
theorem dX8_init_25 : decode cX8_init 25 = .ok (.new 22, 3) := by decide +kernel
theorem dX8_init_28 : decode cX8_init 28 = .ok (.dup, 1) := by decide +kernel
theorem dX8_init_29 : decode cX8_init 29 = .ok (.invokespecial 24, 3) := by decide +kernel
theorem dX8_init_32 : decode cX8_init 32 = .ok (.putfield 25, 3) := by decide +kernel
theorem dX8_init_35 : decode cX8_init 35 = .ok (.aload_n 0, 1) := by decide +kernel
theorem dX8_init_36 : decode cX8_init 36 = .ok (.new 29, 3) := by decide +kernel
theorem dX8_init_39 : decode cX8_init 39 = .ok (.dup, 1) := by decide +kernel
theorem dX8_init_40 : decode cX8_init 40 = .ok (.bipush 100, 2) := by decide +kernel
theorem dX8_init_42 : decode cX8_init 42 = .ok (.invokespecial 31, 3) := by decide +kernel
theorem dX8_init_45 : decode cX8_init 45 = .ok (.putfield 34, 3) := by decide +kernel
theorem dX8_init_48 : decode cX8_init 48 = .ok (.aload_n 0, 1) := by decide +kernel
theorem dX8_init_49 : decode cX8_init 49 = .ok (.new 38, 3) := by decide +kernel
theorem dX8_init_52 : decode cX8_init 52 = .ok (.dup, 1) := by decide +kernel
theorem dX8_init_53 : decode cX8_init 53 = .ok (.invokespecial 40, 3) := by decide +kernel
theorem dX8_init_56 : decode cX8_init 56 = .ok (.putfield 41, 3) := by decide +kernel
theorem dX8_init_59 : decode cX8_init 59 = .ok (.aload_n 0, 1) := by decide +kernel
theorem dX8_init_60 : decode cX8_init 60 = .ok (.new 38, 3) := by decide +kernel
theorem dX8_init_63 : decode cX8_init 63 = .ok (.dup, 1) := by decide +kernel
theorem dX8_init_64 : decode cX8_init 64 = .ok (.invokespecial 40, 3) := by decide +kernel
theorem dX8_init_67 : decode cX8_init 67 = .ok (.putfield 45, 3) := by decide +kernel
theorem dX8_init_70 : decode cX8_init 70 = .ok (.aload_n 0, 1) := by decide +kernel
theorem dX8_init_71 : decode cX8_init 71 = .ok (.new 48, 3) := by decide +kernel
theorem dX8_init_74 : decode cX8_init 74 = .ok (.dup, 1) := by decide +kernel
theorem dX8_init_75 : decode cX8_init 75 = .ok (.invokespecial 50, 3) := by decide +kernel
theorem dX8_init_78 : decode cX8_init 78 = .ok (.putfield 51, 3) := by decide +kernel
theorem dX8_init_81 : decode cX8_init 81 = .ok (.aload_n 0, 1) := by decide +kernel
theorem dX8_init_82 : decode cX8_init 82 = .ok (.new 48, 3) := by decide +kernel
theorem dX8_init_85 : decode cX8_init 85 = .ok (.dup, 1) := by decide +kernel
theorem dX8_init_86 : decode cX8_init 86 = .ok (.invokespecial 50, 3) := by decide +kernel
theorem dX8_init_89 : decode cX8_init 89 = .ok (.putfield 55, 3) := by decide +kernel
theorem dX8_init_92 : decode cX8_init 92 = .ok (.return_, 1) := by decide +kernel
theorem dX8_begin_0 : decode cX8_begin 0 = .ok (.aload_n 0, 1) := by decide +kernel
theorem dX8_begin_1 : decode cX8_begin 1 = .ok (.iconst 1, 1) := by decide +kernel
theorem dX8_begin_2 : decode cX8_begin 2 = .ok (.putfield 58, 3) := by decide +kernel
theorem dX8_begin_5 : decode cX8_begin 5 = .ok (.aload_n 0, 1) := by decide +kernel
theorem dX8_begin_6 : decode cX8_begin 6 = .ok (.iconst 0, 1) := by decide +kernel
theorem dX8_begin_7 : decode cX8_begin 7 = .ok (.putfield 62, 3) := by decide +kernel
theorem dX8_begin_10 : decode cX8_begin 10 = .ok (.aload_n 0, 1) := by decide +kernel
theorem dX8_begin_11 : decode cX8_begin 11 = .ok (.iconst 0, 1) := by decide +kernel
theorem dX8_begin_12 : decode cX8_begin 12 = .ok (.putfield 65, 3) := by decide +kernel
theorem dX8_begin_15 : decode cX8_begin 15 = .ok (.aload_n 0, 1) := by decide +kernel
theorem dX8_begin_16 : decode cX8_begin 16 = .ok (.iconst (-1), 1) := by decide +kernel
theorem dX8_begin_17 : decode cX8_begin 17 = .ok (.putfield 68, 3) := by decide +kernel
theorem dX8_begin_20 : decode cX8_begin 20 = .ok (.aload_n 0, 1) := by decide +kernel
theorem dX8_begin_21 : decode cX8_begin 21 = .ok (.iconst 0, 1) := by decide +kernel
theorem dX8_begin_22 : decode cX8_begin 22 = .ok (.putfield 72, 3) := by decide +kernel
theorem dX8_begin_25 : decode cX8_begin 25 = .ok (.aload_n 0, 1) := by decide +kernel
theorem dX8_begin_26 : decode cX8_begin 26 = .ok (.iconst 0, 1) := by decide +kernel
theorem dX8_begin_27 : decode cX8_begin 27 = .ok (.putfield 75, 3) := by decide +kernel
theorem dX8_begin_30 : decode cX8_begin 30 = .ok (.aload_n 0, 1) := by decide +kernel
theorem dX8_begin_31 : decode cX8_begin 31 = .ok (.getfield 45, 3) := by decide +kernel
theorem dX8_begin_34 : decode cX8_begin 34 = .ok (.aload_n 1, 1) := by decide +kernel
theorem dX8_begin_35 : decode cX8_begin 35 = .ok (.invokevirtual 78, 3) := by decide +kernel
theorem dX8_begin_38 : decode cX8_begin 38 = .ok (.aload_n 0, 1) := by decide +kernel
theorem dX8_begin_39 : decode cX8_begin 39 = .ok (.iconst (-1), 1) := by decide +kernel
theorem dX8_begin_40 : decode cX8_begin 40 = .ok (.iconst (-1), 1) := by decide +kernel
theorem dX8_begin_41 : decode cX8_begin 41 = .ok (.invokevirtual 82, 3) := by decide +kernel
theorem dX8_begin_44 : decode cX8_begin 44 = .ok (.aload_n 0, 1) := by decide +kernel
theorem dX8_begin_45 : decode cX8_begin 45 = .ok (.iconst 0, 1) := by decide +kernel
theorem dX8_begin_46 : decode cX8_begin 46 = .ok (.invokevirtual 86, 3) := by decide +kernel
theorem dX8_begin_49 : decode cX8_begin 49 = .ok (.return_, 1) := by decide +kernel
theorem dX8_aimAt_0 : decode cX8_aimAt 0 = .ok (.aload_n 0, 1) := by decide +kernel
theorem dX8_aimAt_1 : decode cX8_aimAt 1 = .ok (.aload_n 1, 1) := by decide +kernel
theorem dX8_aimAt_2 : decode cX8_aimAt 2 = .ok (.getfield 89, 3) := by decide +kernel
theorem dX8_aimAt_5 : decode cX8_aimAt 5 = .ok (.bipush 12, 2) := by decide +kernel
theorem dX8_aimAt_7 : decode cX8_aimAt 7 = .ok (.if_icmp .gt 7, 3) := by decide +kernel
theorem dX8_aimAt_10 : decode cX8_aimAt 10 = .ok (.iconst 1, 1) := by decide +kernel
theorem dX8_aimAt_11 : decode cX8_aimAt 11 = .ok (.goto 4, 3) := by decide +kernel
theorem dX8_aimAt_14 : decode cX8_aimAt 14 = .ok (.iconst 0, 1) := by decide +kernel
theorem dX8_aimAt_15 : decode cX8_aimAt 15 = .ok (.putfield 65, 3) := by decide +kernel
theorem dX8_aimAt_18 : decode cX8_aimAt 18 = .ok (.aload_n 0, 1) := by decide +kernel
theorem dX8_aimAt_19 : decode cX8_aimAt 19 = .ok (.getfield 65, 3) := by decide +kernel
theorem dX8_aimAt_22 : decode cX8_aimAt 22 = .ok (.ifCond .ne 4, 3) := by decide +kernel
theorem dX8_aimAt_25 : decode cX8_aimAt 25 = .ok (.return_, 1) := by decide +kernel
theorem dX8_aimAt_26 : decode cX8_aimAt 26 = .ok (.aload_n 0, 1) := by decide +kernel
theorem dX8_aimAt_27 : decode cX8_aimAt 27 = .ok (.getfield 55, 3) := by decide +kernel
theorem dX8_aimAt_30 : decode cX8_aimAt 30 = .ok (.aload_n 1, 1) := by decide +kernel
theorem dX8_aimAt_31 : decode cX8_aimAt 31 = .ok (.invokevirtual 92, 3) := by decide +kernel
theorem dX8_aimAt_34 : decode cX8_aimAt 34 = .ok (.aload_n 0, 1) := by decide +kernel
theorem dX8_aimAt_35 : decode cX8_aimAt 35 = .ok (.getfield 55, 3) := by decide +kernel
theorem dX8_aimAt_38 : decode cX8_aimAt 38 = .ok (.invokevirtual 95, 3) := by decide +kernel
theorem dX8_aimAt_41 : decode cX8_aimAt 41 = .ok (.aload_n 0, 1) := by decide +kernel
theorem dX8_aimAt_42 : decode cX8_aimAt 42 = .ok (.getfield 18, 3) := by decide +kernel
theorem dX8_aimAt_45 : decode cX8_aimAt 45 = .ok (.aload_n 1, 1) := by decide +kernel
theorem dX8_aimAt_46 : decode cX8_aimAt 46 = .ok (.aload_n 0, 1) := by decide +kernel
theorem dX8_aimAt_47 : decode cX8_aimAt 47 = .ok (.getfield 55, 3) := by decide +kernel
theorem dX8_aimAt_50 : decode cX8_aimAt 50 = .ok (.invokevirtual 98, 3) := by decide +kernel
theorem dX8_aimAt_53 : decode cX8_aimAt 53 = .ok (.aload_n 0, 1) := by decide +kernel
theorem dX8_aimAt_54 : decode cX8_aimAt 54 = .ok (.getfield 11, 3) := by decide +kernel
theorem dX8_aimAt_57 : decode cX8_aimAt 57 = .ok (.iconst 0, 1) := by decide +kernel
theorem dX8_aimAt_58 : decode cX8_aimAt 58 = .ok (.aaload, 1) := by decide +kernel
theorem dX8_aimAt_59 : decode cX8_aimAt 59 = .ok (.aload_n 0, 1) := by decide +kernel
theorem dX8_aimAt_60 : decode cX8_aimAt 60 = .ok (.getfield 18, 3) := by decide +kernel
theorem dX8_aimAt_63 : decode cX8_aimAt 63 = .ok (.invokevirtual 102, 3) := by decide +kernel
theorem dX8_aimAt_66 : decode cX8_aimAt 66 = .ok (.ifCond .eq 41, 3) := by decide +kernel
theorem dX8_aimAt_69 : decode cX8_aimAt 69 = .ok (.aload_n 0, 1) := by decide +kernel
theorem dX8_aimAt_70 : decode cX8_aimAt 70 = .ok (.getfield 25, 3) := by decide +kernel
theorem dX8_aimAt_73 : decode cX8_aimAt 73 = .ok (.aload_n 0, 1) := by decide +kernel
theorem dX8_aimAt_74 : decode cX8_aimAt 74 = .ok (.getfield 11, 3) := by decide +kernel
theorem dX8_aimAt_77 : decode cX8_aimAt 77 = .ok (.iconst 0, 1) := by decide +kernel
theorem dX8_aimAt_78 : decode cX8_aimAt 78 = .ok (.aaload, 1) := by decide +kernel
theorem dX8_aimAt_79 : decode cX8_aimAt 79 = .ok (.getfield 106, 3) := by decide +kernel
theorem dX8_aimAt_82 : decode cX8_aimAt 82 = .ok (.aload_n 0, 1) := by decide +kernel
theorem dX8_aimAt_83 : decode cX8_aimAt 83 = .ok (.getfield 18, 3) := by decide +kernel
theorem dX8_aimAt_86 : decode cX8_aimAt 86 = .ok (.getfield 106, 3) := by decide +kernel
theorem dX8_aimAt_89 : decode cX8_aimAt 89 = .ok (.aload_n 0, 1) := by decide +kernel
theorem dX8_aimAt_90 : decode cX8_aimAt 90 = .ok (.getfield 18, 3) := by decide +kernel
theorem dX8_aimAt_93 : decode cX8_aimAt 93 = .ok (.getfield 110, 3) := by decide +kernel
theorem dX8_aimAt_96 : decode cX8_aimAt 96 = .ok (.invokevirtual 111, 3) := by decide +kernel
theorem dX8_aimAt_99 : decode cX8_aimAt 99 = .ok (.ifCond .eq 8, 3) := by decide +kernel
theorem dX8_aimAt_102 : decode cX8_aimAt 102 = .ok (.aload_n 0, 1) := by decide +kernel
theorem dX8_aimAt_103 : decode cX8_aimAt 103 = .ok (.iconst 0, 1) := by decide +kernel
theorem dX8_aimAt_104 : decode cX8_aimAt 104 = .ok (.putfield 68, 3) := by decide +kernel
theorem dX8_aimAt_107 : decode cX8_aimAt 107 = .ok (.return_, 1) := by decide +kernel
theorem dX8_takeAim_0 : decode cX8_takeAim 0 = .ok (.aload_n 0, 1) := by decide +kernel
theorem dX8_takeAim_1 : decode cX8_takeAim 1 = .ok (.getfield 68, 3) := by decide +kernel
theorem dX8_takeAim_4 : decode cX8_takeAim 4 = .ok (.ifCond .lt 7, 3) := by decide +kernel
theorem dX8_takeAim_7 : decode cX8_takeAim 7 = .ok (.iconst 1, 1) := by decide +kernel
theorem dX8_takeAim_8 : decode cX8_takeAim 8 = .ok (.goto 4, 3) := by decide +kernel
theorem dX8_takeAim_11 : decode cX8_takeAim 11 = .ok (.iconst 0, 1) := by decide +kernel
theorem dX8_takeAim_12 : decode cX8_takeAim 12 = .ok (.istore_n 1, 1) := by decide +kernel
theorem dX8_takeAim_13 : decode cX8_takeAim 13 = .ok (.iload_n 1, 1) := by decide +kernel
theorem dX8_takeAim_14 : decode cX8_takeAim 14 = .ok (.ifCond .eq 11, 3) := by decide +kernel
theorem dX8_takeAim_17 : decode cX8_takeAim 17 = .ok (.aload_n 0, 1) := by decide +kernel
theorem dX8_takeAim_18 : decode cX8_takeAim 18 = .ok (.aload_n 0, 1) := by decide +kernel
theorem dX8_takeAim_19 : decode cX8_takeAim 19 = .ok (.getfield 68, 3) := by decide +kernel
theorem dX8_takeAim_22 : decode cX8_takeAim 22 = .ok (.invokevirtual 115, 3) := by decide +kernel
theorem dX8_takeAim_25 : decode cX8_takeAim 25 = .ok (.aload_n 0, 1) := by decide +kernel
theorem dX8_takeAim_26 : decode cX8_takeAim 26 = .ok (.iconst 0, 1) := by decide +kernel
theorem dX8_takeAim_27 : decode cX8_takeAim 27 = .ok (.putfield 65, 3) := by decide +kernel
theorem dX8_takeAim_30 : decode cX8_takeAim 30 = .ok (.aload_n 0, 1) := by decide +kernel
theorem dX8_takeAim_31 : decode cX8_takeAim 31 = .ok (.iconst (-1), 1) := by decide +kernel
theorem dX8_takeAim_32 : decode cX8_takeAim 32 = .ok (.putfield 68, 3) := by decide +kernel
theorem dX8_takeAim_35 : decode cX8_takeAim 35 = .ok (.iload_n 1, 1) := by decide +kernel
theorem dX8_takeAim_36 : decode cX8_takeAim 36 = .ok (.ireturn, 1) := by decide +kernel
theorem dX8_go_0 : decode cX8_go 0 = .ok (.iconst 0, 1) := by decide +kernel
theorem dX8_go_1 : decode cX8_go 1 = .ok (.istore_n 2, 1) := by decide +kernel
theorem dX8_go_2 : decode cX8_go 2 = .ok (.iconst 0, 1) := by decide +kernel
theorem dX8_go_3 : decode cX8_go 3 = .ok (.istore_n 3, 1) := by decide +kernel
theorem dX8_go_4 : decode cX8_go 4 = .ok (.iload_n 3, 1) := by decide +kernel
theorem dX8_go_5 : decode cX8_go 5 = .ok (.sipush 14500, 3) := by decide +kernel
theorem dX8_go_8 : decode cX8_go 8 = .ok (.if_icmp .gt 119, 3) := by decide +kernel
theorem dX8_go_11 : decode cX8_go 11 = .ok (.iload_n 2, 1) := by decide +kernel
theorem dX8_go_12 : decode cX8_go 12 = .ok (.iload_n 1, 1) := by decide +kernel
theorem dX8_go_13 : decode cX8_go 13 = .ok (.if_icmp .ge 114, 3) := by decide +kernel
theorem dX8_go_16 : decode cX8_go 16 = .ok (.aload_n 0, 1) := by decide +kernel
theorem dX8_go_17 : decode cX8_go 17 = .ok (.getfield 68, 3) := by decide +kernel
theorem dX8_go_20 : decode cX8_go 20 = .ok (.ifCond .ge 107, 3) := by decide +kernel
theorem dX8_go_23 : decode cX8_go 23 = .ok (.aload_n 0, 1) := by decide +kernel
theorem dX8_go_24 : decode cX8_go 24 = .ok (.getfield 118, 3) := by decide +kernel
theorem dX8_go_27 : decode cX8_go 27 = .ok (.bipush 12, 2) := by decide +kernel
theorem dX8_go_29 : decode cX8_go 29 = .ok (.aload_n 0, 1) := by decide +kernel
theorem dX8_go_30 : decode cX8_go 30 = .ok (.getfield 41, 3) := by decide +kernel
theorem dX8_go_33 : decode cX8_go 33 = .ok (.getfield 89, 3) := by decide +kernel
theorem dX8_go_36 : decode cX8_go 36 = .ok (.imul, 1) := by decide +kernel
theorem dX8_go_37 : decode cX8_go 37 = .ok (.if_icmp .lt 13, 3) := by decide +kernel
theorem dX8_go_40 : decode cX8_go 40 = .ok (.aload_n 0, 1) := by decide +kernel
theorem dX8_go_41 : decode cX8_go 41 = .ok (.invokevirtual 121, 3) := by decide +kernel
theorem dX8_go_44 : decode cX8_go 44 = .ok (.ifCond .ne 77, 3) := by decide +kernel
theorem dX8_go_47 : decode cX8_go 47 = .ok (.goto 80, 3) := by decide +kernel
theorem dX8_go_50 : decode cX8_go 50 = .ok (.aload_n 0, 1) := by decide +kernel
theorem dX8_go_51 : decode cX8_go 51 = .ok (.getfield 118, 3) := by decide +kernel
theorem dX8_go_54 : decode cX8_go 54 = .ok (.istore 4, 2) := by decide +kernel
theorem dX8_go_56 : decode cX8_go 56 = .ok (.aload_n 0, 1) := by decide +kernel
theorem dX8_go_57 : decode cX8_go 57 = .ok (.dup, 1) := by decide +kernel
theorem dX8_go_58 : decode cX8_go 58 = .ok (.getfield 118, 3) := by decide +kernel
theorem dX8_go_61 : decode cX8_go 61 = .ok (.iconst 1, 1) := by decide +kernel
theorem dX8_go_62 : decode cX8_go 62 = .ok (.iadd, 1) := by decide +kernel
theorem dX8_go_63 : decode cX8_go 63 = .ok (.putfield 118, 3) := by decide +kernel
theorem dX8_go_66 : decode cX8_go 66 = .ok (.aload_n 0, 1) := by decide +kernel
theorem dX8_go_67 : decode cX8_go 67 = .ok (.getfield 51, 3) := by decide +kernel
theorem dX8_go_70 : decode cX8_go 70 = .ok (.iload 4, 2) := by decide +kernel
theorem dX8_go_72 : decode cX8_go 72 = .ok (.invokestatic 125, 3) := by decide +kernel
theorem dX8_go_75 : decode cX8_go 75 = .ok (.ifCond .ne 6, 3) := by decide +kernel
theorem dX8_go_78 : decode cX8_go 78 = .ok (.goto 43, 3) := by decide +kernel
theorem dX8_go_81 : decode cX8_go 81 = .ok (.aload_n 0, 1) := by decide +kernel
theorem dX8_go_82 : decode cX8_go 82 = .ok (.getfield 45, 3) := by decide +kernel
theorem dX8_go_85 : decode cX8_go 85 = .ok (.aload_n 0, 1) := by decide +kernel
theorem dX8_go_86 : decode cX8_go 86 = .ok (.getfield 41, 3) := by decide +kernel
theorem dX8_go_89 : decode cX8_go 89 = .ok (.invokevirtual 78, 3) := by decide +kernel
theorem dX8_go_92 : decode cX8_go 92 = .ok (.aload_n 0, 1) := by decide +kernel
theorem dX8_go_93 : decode cX8_go 93 = .ok (.getfield 45, 3) := by decide +kernel
theorem dX8_go_96 : decode cX8_go 96 = .ok (.aload_n 0, 1) := by decide +kernel
theorem dX8_go_97 : decode cX8_go 97 = .ok (.getfield 51, 3) := by decide +kernel
theorem dX8_go_100 : decode cX8_go 100 = .ok (.iload 4, 2) := by decide +kernel
theorem dX8_go_102 : decode cX8_go 102 = .ok (.invokestatic 131, 3) := by decide +kernel
theorem dX8_go_105 : decode cX8_go 105 = .ok (.ifCond .eq 16, 3) := by decide +kernel
theorem dX8_go_108 : decode cX8_go 108 = .ok (.iinc 2 1, 3) := by decide +kernel
theorem dX8_go_111 : decode cX8_go 111 = .ok (.aload_n 0, 1) := by decide +kernel
theorem dX8_go_112 : decode cX8_go 112 = .ok (.aload_n 0, 1) := by decide +kernel
theorem dX8_go_113 : decode cX8_go 113 = .ok (.getfield 135, 3) := by decide +kernel
theorem dX8_go_116 : decode cX8_go 116 = .ok (.iload 4, 2) := by decide +kernel
theorem dX8_go_118 : decode cX8_go 118 = .ok (.invokevirtual 82, 3) := by decide +kernel
theorem dX8_go_121 : decode cX8_go 121 = .ok (.iinc 3 1, 3) := by decide +kernel
theorem dX8_go_124 : decode cX8_go 124 = .ok (.goto (-120), 3) := by decide +kernel
theorem dX8_go_127 : decode cX8_go 127 = .ok (.aload_n 0, 1) := by decide +kernel
theorem dX8_go_128 : decode cX8_go 128 = .ok (.dup, 1) := by decide +kernel
theorem dX8_go_129 : decode cX8_go 129 = .ok (.getfield 75, 3) := by decide +kernel
theorem dX8_go_132 : decode cX8_go 132 = .ok (.iload_n 2, 1) := by decide +kernel
theorem dX8_go_133 : decode cX8_go 133 = .ok (.iadd, 1) := by decide +kernel
theorem dX8_go_134 : decode cX8_go 134 = .ok (.putfield 75, 3) := by decide +kernel
theorem dX8_go_137 : decode cX8_go 137 = .ok (.iload_n 2, 1) := by decide +kernel
theorem dX8_go_138 : decode cX8_go 138 = .ok (.ireturn, 1) := by decide +kernel
theorem dX8_enterNext_0 : decode cX8_enterNext 0 = .ok (.aload_n 0, 1) := by decide +kernel
theorem dX8_enterNext_1 : decode cX8_enterNext 1 = .ok (.aload_n 0, 1) := by decide +kernel
theorem dX8_enterNext_2 : decode cX8_enterNext 2 = .ok (.getfield 135, 3) := by decide +kernel
theorem dX8_enterNext_5 : decode cX8_enterNext 5 = .ok (.iconst 1, 1) := by decide +kernel
theorem dX8_enterNext_6 : decode cX8_enterNext 6 = .ok (.iadd, 1) := by decide +kernel
theorem dX8_enterNext_7 : decode cX8_enterNext 7 = .ok (.aload_n 0, 1) := by decide +kernel
theorem dX8_enterNext_8 : decode cX8_enterNext 8 = .ok (.getfield 72, 3) := by decide +kernel
theorem dX8_enterNext_11 : decode cX8_enterNext 11 = .ok (.if_icmp .lt 7, 3) := by decide +kernel
theorem dX8_enterNext_14 : decode cX8_enterNext 14 = .ok (.iconst 1, 1) := by decide +kernel
theorem dX8_enterNext_15 : decode cX8_enterNext 15 = .ok (.goto 4, 3) := by decide +kernel
theorem dX8_enterNext_18 : decode cX8_enterNext 18 = .ok (.iconst 0, 1) := by decide +kernel
theorem dX8_enterNext_19 : decode cX8_enterNext 19 = .ok (.putfield 62, 3) := by decide +kernel
theorem dX8_enterNext_22 : decode cX8_enterNext 22 = .ok (.aload_n 0, 1) := by decide +kernel
theorem dX8_enterNext_23 : decode cX8_enterNext 23 = .ok (.getfield 62, 3) := by decide +kernel
theorem dX8_enterNext_26 : decode cX8_enterNext 26 = .ok (.ifCond .ne 13, 3) := by decide +kernel
theorem dX8_enterNext_29 : decode cX8_enterNext 29 = .ok (.aload_n 0, 1) := by decide +kernel
theorem dX8_enterNext_30 : decode cX8_enterNext 30 = .ok (.aload_n 0, 1) := by decide +kernel
theorem dX8_enterNext_31 : decode cX8_enterNext 31 = .ok (.getfield 135, 3) := by decide +kernel
theorem dX8_enterNext_34 : decode cX8_enterNext 34 = .ok (.iconst 1, 1) := by decide +kernel
theorem dX8_enterNext_35 : decode cX8_enterNext 35 = .ok (.iadd, 1) := by decide +kernel
theorem dX8_enterNext_36 : decode cX8_enterNext 36 = .ok (.invokevirtual 86, 3) := by decide +kernel
theorem dX8_enterNext_39 : decode cX8_enterNext 39 = .ok (.aload_n 0, 1) := by decide +kernel
theorem dX8_enterNext_40 : decode cX8_enterNext 40 = .ok (.getfield 62, 3) := by decide +kernel
theorem dX8_enterNext_43 : decode cX8_enterNext 43 = .ok (.ifCond .ne 7, 3) := by decide +kernel
theorem dX8_enterNext_46 : decode cX8_enterNext 46 = .ok (.iconst 1, 1) := by decide +kernel
theorem dX8_enterNext_47 : decode cX8_enterNext 47 = .ok (.goto 4, 3) := by decide +kernel
theorem dX8_enterNext_50 : decode cX8_enterNext 50 = .ok (.iconst 0, 1) := by decide +kernel
theorem dX8_enterNext_51 : decode cX8_enterNext 51 = .ok (.ireturn, 1) := by decide +kernel
theorem dX8_enter_0 : decode cX8_enter 0 = .ok (.aload_n 0, 1) := by decide +kernel
theorem dX8_enter_1 : decode cX8_enter 1 = .ok (.iload_n 1, 1) := by decide +kernel
theorem dX8_enter_2 : decode cX8_enter 2 = .ok (.putfield 135, 3) := by decide +kernel
theorem dX8_enter_5 : decode cX8_enter 5 = .ok (.aload_n 0, 1) := by decide +kernel
theorem dX8_enter_6 : decode cX8_enter 6 = .ok (.iconst 0, 1) := by decide +kernel
theorem dX8_enter_7 : decode cX8_enter 7 = .ok (.putfield 118, 3) := by decide +kernel
theorem dX8_enter_10 : decode cX8_enter 10 = .ok (.aload_n 0, 1) := by decide +kernel
theorem dX8_enter_11 : decode cX8_enter 11 = .ok (.getfield 11, 3) := by decide +kernel
theorem dX8_enter_14 : decode cX8_enter 14 = .ok (.iload_n 1, 1) := by decide +kernel
theorem dX8_enter_15 : decode cX8_enter 15 = .ok (.aaload, 1) := by decide +kernel
theorem dX8_enter_16 : decode cX8_enter 16 = .ok (.aload_n 0, 1) := by decide +kernel
theorem dX8_enter_17 : decode cX8_enter 17 = .ok (.getfield 41, 3) := by decide +kernel
theorem dX8_enter_20 : decode cX8_enter 20 = .ok (.invokevirtual 138, 3) := by decide +kernel
theorem dX8_enter_23 : decode cX8_enter 23 = .ok (.aload_n 0, 1) := by decide +kernel
theorem dX8_enter_24 : decode cX8_enter 24 = .ok (.getfield 51, 3) := by decide +kernel
theorem dX8_enter_27 : decode cX8_enter 27 = .ok (.aload_n 0, 1) := by decide +kernel
theorem dX8_enter_28 : decode cX8_enter 28 = .ok (.getfield 41, 3) := by decide +kernel
theorem dX8_enter_31 : decode cX8_enter 31 = .ok (.invokevirtual 92, 3) := by decide +kernel
theorem dX8_enter_34 : decode cX8_enter 34 = .ok (.return_, 1) := by decide +kernel
theorem dX8_keep_0 : decode cX8_keep 0 = .ok (.aload_n 0, 1) := by decide +kernel
theorem dX8_keep_1 : decode cX8_keep 1 = .ok (.getfield 72, 3) := by decide +kernel
theorem dX8_keep_4 : decode cX8_keep 4 = .ok (.bipush 100, 2) := by decide +kernel
theorem dX8_keep_6 : decode cX8_keep 6 = .ok (.if_icmp .lt 4, 3) := by decide +kernel
theorem dX8_keep_9 : decode cX8_keep 9 = .ok (.return_, 1) := by decide +kernel
theorem dX8_keep_10 : decode cX8_keep 10 = .ok (.aload_n 0, 1) := by decide +kernel
theorem dX8_keep_11 : decode cX8_keep 11 = .ok (.getfield 11, 3) := by decide +kernel
theorem dX8_keep_14 : decode cX8_keep 14 = .ok (.aload_n 0, 1) := by decide +kernel
theorem dX8_keep_15 : decode cX8_keep 15 = .ok (.getfield 72, 3) := by decide +kernel
theorem dX8_keep_18 : decode cX8_keep 18 = .ok (.aaload, 1) := by decide +kernel
theorem dX8_keep_19 : decode cX8_keep 19 = .ok (.ifnonnull 19, 3) := by decide +kernel
theorem dX8_keep_22 : decode cX8_keep 22 = .ok (.aload_n 0, 1) := by decide +kernel
theorem dX8_keep_23 : decode cX8_keep 23 = .ok (.getfield 11, 3) := by decide +kernel
theorem dX8_keep_26 : decode cX8_keep 26 = .ok (.aload_n 0, 1) := by decide +kernel
theorem dX8_keep_27 : decode cX8_keep 27 = .ok (.getfield 72, 3) := by decide +kernel
theorem dX8_keep_30 : decode cX8_keep 30 = .ok (.new 1, 3) := by decide +kernel
theorem dX8_keep_33 : decode cX8_keep 33 = .ok (.dup, 1) := by decide +kernel
theorem dX8_keep_34 : decode cX8_keep 34 = .ok (.invokespecial 17, 3) := by decide +kernel
theorem dX8_keep_37 : decode cX8_keep 37 = .ok (.aastore, 1) := by decide +kernel
theorem dX8_keep_38 : decode cX8_keep 38 = .ok (.aload_n 0, 1) := by decide +kernel
theorem dX8_keep_39 : decode cX8_keep 39 = .ok (.getfield 11, 3) := by decide +kernel
theorem dX8_keep_42 : decode cX8_keep 42 = .ok (.aload_n 0, 1) := by decide +kernel
theorem dX8_keep_43 : decode cX8_keep 43 = .ok (.getfield 72, 3) := by decide +kernel
theorem dX8_keep_46 : decode cX8_keep 46 = .ok (.aaload, 1) := by decide +kernel
theorem dX8_keep_47 : decode cX8_keep 47 = .ok (.astore_n 3, 1) := by decide +kernel
theorem dX8_keep_48 : decode cX8_keep 48 = .ok (.aload_n 0, 1) := by decide +kernel
theorem dX8_keep_49 : decode cX8_keep 49 = .ok (.getfield 55, 3) := by decide +kernel
theorem dX8_keep_52 : decode cX8_keep 52 = .ok (.aload_n 0, 1) := by decide +kernel
theorem dX8_keep_53 : decode cX8_keep 53 = .ok (.getfield 45, 3) := by decide +kernel
theorem dX8_keep_56 : decode cX8_keep 56 = .ok (.invokevirtual 92, 3) := by decide +kernel
theorem dX8_keep_59 : decode cX8_keep 59 = .ok (.aload_n 0, 1) := by decide +kernel
theorem dX8_keep_60 : decode cX8_keep 60 = .ok (.getfield 55, 3) := by decide +kernel
theorem dX8_keep_63 : decode cX8_keep 63 = .ok (.invokevirtual 95, 3) := by decide +kernel
theorem dX8_keep_66 : decode cX8_keep 66 = .ok (.aload_n 3, 1) := by decide +kernel
theorem dX8_keep_67 : decode cX8_keep 67 = .ok (.aload_n 0, 1) := by decide +kernel
theorem dX8_keep_68 : decode cX8_keep 68 = .ok (.getfield 45, 3) := by decide +kernel
theorem dX8_keep_71 : decode cX8_keep 71 = .ok (.aload_n 0, 1) := by decide +kernel
theorem dX8_keep_72 : decode cX8_keep 72 = .ok (.getfield 55, 3) := by decide +kernel
theorem dX8_keep_75 : decode cX8_keep 75 = .ok (.invokevirtual 98, 3) := by decide +kernel
theorem dX8_keep_78 : decode cX8_keep 78 = .ok (.iconst 0, 1) := by decide +kernel
theorem dX8_keep_79 : decode cX8_keep 79 = .ok (.istore 4, 2) := by decide +kernel
theorem dX8_keep_81 : decode cX8_keep 81 = .ok (.iload 4, 2) := by decide +kernel
theorem dX8_keep_83 : decode cX8_keep 83 = .ok (.aload_n 0, 1) := by decide +kernel
theorem dX8_keep_84 : decode cX8_keep 84 = .ok (.getfield 72, 3) := by decide +kernel
theorem dX8_keep_87 : decode cX8_keep 87 = .ok (.if_icmp .ge 52, 3) := by decide +kernel
theorem dX8_keep_90 : decode cX8_keep 90 = .ok (.aload_n 0, 1) := by decide +kernel
theorem dX8_keep_91 : decode cX8_keep 91 = .ok (.getfield 11, 3) := by decide +kernel
theorem dX8_keep_94 : decode cX8_keep 94 = .ok (.iload 4, 2) := by decide +kernel
theorem dX8_keep_96 : decode cX8_keep 96 = .ok (.aaload, 1) := by decide +kernel
theorem dX8_keep_97 : decode cX8_keep 97 = .ok (.aload_n 3, 1) := by decide +kernel
theorem dX8_keep_98 : decode cX8_keep 98 = .ok (.invokevirtual 102, 3) := by decide +kernel
theorem dX8_keep_101 : decode cX8_keep 101 = .ok (.ifCond .eq 32, 3) := by decide +kernel
theorem dX8_keep_104 : decode cX8_keep 104 = .ok (.aload_n 0, 1) := by decide +kernel
theorem dX8_keep_105 : decode cX8_keep 105 = .ok (.getfield 25, 3) := by decide +kernel
theorem dX8_keep_108 : decode cX8_keep 108 = .ok (.aload_n 0, 1) := by decide +kernel
theorem dX8_keep_109 : decode cX8_keep 109 = .ok (.getfield 11, 3) := by decide +kernel
theorem dX8_keep_112 : decode cX8_keep 112 = .ok (.iload 4, 2) := by decide +kernel
theorem dX8_keep_114 : decode cX8_keep 114 = .ok (.aaload, 1) := by decide +kernel
theorem dX8_keep_115 : decode cX8_keep 115 = .ok (.getfield 106, 3) := by decide +kernel
theorem dX8_keep_118 : decode cX8_keep 118 = .ok (.aload_n 3, 1) := by decide +kernel
theorem dX8_keep_119 : decode cX8_keep 119 = .ok (.getfield 106, 3) := by decide +kernel
theorem dX8_keep_122 : decode cX8_keep 122 = .ok (.aload_n 3, 1) := by decide +kernel
theorem dX8_keep_123 : decode cX8_keep 123 = .ok (.getfield 110, 3) := by decide +kernel
theorem dX8_keep_126 : decode cX8_keep 126 = .ok (.invokevirtual 111, 3) := by decide +kernel
theorem dX8_keep_129 : decode cX8_keep 129 = .ok (.ifCond .eq 4, 3) := by decide +kernel
theorem dX8_keep_132 : decode cX8_keep 132 = .ok (.return_, 1) := by decide +kernel
theorem dX8_keep_133 : decode cX8_keep 133 = .ok (.iinc 4 1, 3) := by decide +kernel
theorem dX8_keep_136 : decode cX8_keep 136 = .ok (.goto (-55), 3) := by decide +kernel
theorem dX8_keep_139 : decode cX8_keep 139 = .ok (.aload_n 3, 1) := by decide +kernel
theorem dX8_keep_140 : decode cX8_keep 140 = .ok (.iload_n 1, 1) := by decide +kernel
theorem dX8_keep_141 : decode cX8_keep 141 = .ok (.putfield 141, 3) := by decide +kernel
theorem dX8_keep_144 : decode cX8_keep 144 = .ok (.aload_n 3, 1) := by decide +kernel
theorem dX8_keep_145 : decode cX8_keep 145 = .ok (.iload_n 2, 1) := by decide +kernel
theorem dX8_keep_146 : decode cX8_keep 146 = .ok (.putfield 144, 3) := by decide +kernel
theorem dX8_keep_149 : decode cX8_keep 149 = .ok (.aload_n 0, 1) := by decide +kernel
theorem dX8_keep_150 : decode cX8_keep 150 = .ok (.dup, 1) := by decide +kernel
theorem dX8_keep_151 : decode cX8_keep 151 = .ok (.getfield 72, 3) := by decide +kernel
theorem dX8_keep_154 : decode cX8_keep 154 = .ok (.iconst 1, 1) := by decide +kernel
theorem dX8_keep_155 : decode cX8_keep 155 = .ok (.iadd, 1) := by decide +kernel
theorem dX8_keep_156 : decode cX8_keep 156 = .ok (.putfield 72, 3) := by decide +kernel
theorem dX8_keep_159 : decode cX8_keep 159 = .ok (.aload_n 0, 1) := by decide +kernel
theorem dX8_keep_160 : decode cX8_keep 160 = .ok (.getfield 65, 3) := by decide +kernel
theorem dX8_keep_163 : decode cX8_keep 163 = .ok (.ifCond .eq 52, 3) := by decide +kernel
theorem dX8_keep_166 : decode cX8_keep 166 = .ok (.aload_n 3, 1) := by decide +kernel
theorem dX8_keep_167 : decode cX8_keep 167 = .ok (.aload_n 0, 1) := by decide +kernel
theorem dX8_keep_168 : decode cX8_keep 168 = .ok (.getfield 18, 3) := by decide +kernel
theorem dX8_keep_171 : decode cX8_keep 171 = .ok (.invokevirtual 102, 3) := by decide +kernel
theorem dX8_keep_174 : decode cX8_keep 174 = .ok (.ifCond .eq 41, 3) := by decide +kernel
theorem dX8_keep_177 : decode cX8_keep 177 = .ok (.aload_n 0, 1) := by decide +kernel
theorem dX8_keep_178 : decode cX8_keep 178 = .ok (.getfield 25, 3) := by decide +kernel
theorem dX8_keep_181 : decode cX8_keep 181 = .ok (.aload_n 3, 1) := by decide +kernel
theorem dX8_keep_182 : decode cX8_keep 182 = .ok (.getfield 106, 3) := by decide +kernel
theorem dX8_keep_185 : decode cX8_keep 185 = .ok (.aload_n 0, 1) := by decide +kernel
theorem dX8_keep_186 : decode cX8_keep 186 = .ok (.getfield 18, 3) := by decide +kernel
theorem dX8_keep_189 : decode cX8_keep 189 = .ok (.getfield 106, 3) := by decide +kernel
theorem dX8_keep_192 : decode cX8_keep 192 = .ok (.aload_n 0, 1) := by decide +kernel
theorem dX8_keep_193 : decode cX8_keep 193 = .ok (.getfield 18, 3) := by decide +kernel
theorem dX8_keep_196 : decode cX8_keep 196 = .ok (.getfield 110, 3) := by decide +kernel
theorem dX8_keep_199 : decode cX8_keep 199 = .ok (.invokevirtual 111, 3) := by decide +kernel
theorem dX8_keep_202 : decode cX8_keep 202 = .ok (.ifCond .eq 13, 3) := by decide +kernel
theorem dX8_keep_205 : decode cX8_keep 205 = .ok (.aload_n 0, 1) := by decide +kernel
theorem dX8_keep_206 : decode cX8_keep 206 = .ok (.aload_n 0, 1) := by decide +kernel
theorem dX8_keep_207 : decode cX8_keep 207 = .ok (.getfield 72, 3) := by decide +kernel
theorem dX8_keep_210 : decode cX8_keep 210 = .ok (.iconst 1, 1) := by decide +kernel
theorem dX8_keep_211 : decode cX8_keep 211 = .ok (.isub, 1) := by decide +kernel
theorem dX8_keep_212 : decode cX8_keep 212 = .ok (.putfield 68, 3) := by decide +kernel
theorem dX8_keep_215 : decode cX8_keep 215 = .ok (.return_, 1) := by decide +kernel
theorem dX8_smallest_0 : decode cX8_smallest 0 = .ok (.iconst 0, 1) := by decide +kernel
theorem dX8_smallest_1 : decode cX8_smallest 1 = .ok (.istore_n 1, 1) := by decide +kernel
theorem dX8_smallest_2 : decode cX8_smallest 2 = .ok (.iconst 1, 1) := by decide +kernel
theorem dX8_smallest_3 : decode cX8_smallest 3 = .ok (.istore_n 2, 1) := by decide +kernel
theorem dX8_smallest_4 : decode cX8_smallest 4 = .ok (.iload_n 2, 1) := by decide +kernel
theorem dX8_smallest_5 : decode cX8_smallest 5 = .ok (.aload_n 0, 1) := by decide +kernel
theorem dX8_smallest_6 : decode cX8_smallest 6 = .ok (.getfield 72, 3) := by decide +kernel
theorem dX8_smallest_9 : decode cX8_smallest 9 = .ok (.if_icmp .ge 32, 3) := by decide +kernel
theorem dX8_smallest_12 : decode cX8_smallest 12 = .ok (.aload_n 0, 1) := by decide +kernel
theorem dX8_smallest_13 : decode cX8_smallest 13 = .ok (.getfield 11, 3) := by decide +kernel
theorem dX8_smallest_16 : decode cX8_smallest 16 = .ok (.iload_n 2, 1) := by decide +kernel
theorem dX8_smallest_17 : decode cX8_smallest 17 = .ok (.aaload, 1) := by decide +kernel
theorem dX8_smallest_18 : decode cX8_smallest 18 = .ok (.getfield 110, 3) := by decide +kernel
theorem dX8_smallest_21 : decode cX8_smallest 21 = .ok (.aload_n 0, 1) := by decide +kernel
theorem dX8_smallest_22 : decode cX8_smallest 22 = .ok (.getfield 11, 3) := by decide +kernel
theorem dX8_smallest_25 : decode cX8_smallest 25 = .ok (.iload_n 1, 1) := by decide +kernel
theorem dX8_smallest_26 : decode cX8_smallest 26 = .ok (.aaload, 1) := by decide +kernel
theorem dX8_smallest_27 : decode cX8_smallest 27 = .ok (.getfield 110, 3) := by decide +kernel
theorem dX8_smallest_30 : decode cX8_smallest 30 = .ok (.if_icmp .ge 5, 3) := by decide +kernel
theorem dX8_smallest_33 : decode cX8_smallest 33 = .ok (.iload_n 2, 1) := by decide +kernel
theorem dX8_smallest_34 : decode cX8_smallest 34 = .ok (.istore_n 1, 1) := by decide +kernel
theorem dX8_smallest_35 : decode cX8_smallest 35 = .ok (.iinc 2 1, 3) := by decide +kernel
theorem dX8_smallest_38 : decode cX8_smallest 38 = .ok (.goto (-34), 3) := by decide +kernel
theorem dX8_smallest_41 : decode cX8_smallest 41 = .ok (.iload_n 1, 1) := by decide +kernel
theorem dX8_smallest_42 : decode cX8_smallest 42 = .ok (.ireturn, 1) := by decide +kernel
theorem dX8_tellWays_0 : decode cX8_tellWays 0 = .ok (.aload_n 0, 1) := by decide +kernel
theorem dX8_tellWays_1 : decode cX8_tellWays 1 = .ok (.getfield 34, 3) := by decide +kernel
theorem dX8_tellWays_4 : decode cX8_tellWays 4 = .ok (.invokevirtual 147, 3) := by decide +kernel
theorem dX8_tellWays_7 : decode cX8_tellWays 7 = .ok (.iload_n 1, 1) := by decide +kernel
theorem dX8_tellWays_8 : decode cX8_tellWays 8 = .ok (.istore_n 2, 1) := by decide +kernel
theorem dX8_tellWays_9 : decode cX8_tellWays 9 = .ok (.iconst 0, 1) := by decide +kernel
theorem dX8_tellWays_10 : decode cX8_tellWays 10 = .ok (.istore_n 3, 1) := by decide +kernel
theorem dX8_tellWays_11 : decode cX8_tellWays 11 = .ok (.iload_n 3, 1) := by decide +kernel
theorem dX8_tellWays_12 : decode cX8_tellWays 12 = .ok (.bipush 100, 2) := by decide +kernel
theorem dX8_tellWays_14 : decode cX8_tellWays 14 = .ok (.if_icmp .ge 40, 3) := by decide +kernel
theorem dX8_tellWays_17 : decode cX8_tellWays 17 = .ok (.iload_n 2, 1) := by decide +kernel
theorem dX8_tellWays_18 : decode cX8_tellWays 18 = .ok (.ifCond .le 36, 3) := by decide +kernel
theorem dX8_tellWays_21 : decode cX8_tellWays 21 = .ok (.aload_n 0, 1) := by decide +kernel
theorem dX8_tellWays_22 : decode cX8_tellWays 22 = .ok (.getfield 34, 3) := by decide +kernel
theorem dX8_tellWays_25 : decode cX8_tellWays 25 = .ok (.aload_n 0, 1) := by decide +kernel
theorem dX8_tellWays_26 : decode cX8_tellWays 26 = .ok (.getfield 11, 3) := by decide +kernel
theorem dX8_tellWays_29 : decode cX8_tellWays 29 = .ok (.iload_n 2, 1) := by decide +kernel
theorem dX8_tellWays_30 : decode cX8_tellWays 30 = .ok (.aaload, 1) := by decide +kernel
theorem dX8_tellWays_31 : decode cX8_tellWays 31 = .ok (.getfield 144, 3) := by decide +kernel
theorem dX8_tellWays_34 : decode cX8_tellWays 34 = .ok (.invokevirtual 150, 3) := by decide +kernel
theorem dX8_tellWays_37 : decode cX8_tellWays 37 = .ok (.pop, 1) := by decide +kernel
theorem dX8_tellWays_38 : decode cX8_tellWays 38 = .ok (.aload_n 0, 1) := by decide +kernel
theorem dX8_tellWays_39 : decode cX8_tellWays 39 = .ok (.getfield 11, 3) := by decide +kernel
theorem dX8_tellWays_42 : decode cX8_tellWays 42 = .ok (.iload_n 2, 1) := by decide +kernel
theorem dX8_tellWays_43 : decode cX8_tellWays 43 = .ok (.aaload, 1) := by decide +kernel
theorem dX8_tellWays_44 : decode cX8_tellWays 44 = .ok (.getfield 141, 3) := by decide +kernel
theorem dX8_tellWays_47 : decode cX8_tellWays 47 = .ok (.istore_n 2, 1) := by decide +kernel
theorem dX8_tellWays_48 : decode cX8_tellWays 48 = .ok (.iinc 3 1, 3) := by decide +kernel
theorem dX8_tellWays_51 : decode cX8_tellWays 51 = .ok (.goto (-40), 3) := by decide +kernel
theorem dX8_tellWays_54 : decode cX8_tellWays 54 = .ok (.aload_n 0, 1) := by decide +kernel
theorem dX8_tellWays_55 : decode cX8_tellWays 55 = .ok (.getfield 34, 3) := by decide +kernel
theorem dX8_tellWays_58 : decode cX8_tellWays 58 = .ok (.invokevirtual 154, 3) := by decide +kernel
theorem dX8_tellWays_61 : decode cX8_tellWays 61 = .ok (.return_, 1) := by decide +kernel
theorem dX9_init_0 : decode cX9_init 0 = .ok (.aload_n 0, 1) := by decide +kernel
theorem dX9_init_1 : decode cX9_init 1 = .ok (.invokespecial 3, 3) := by decide +kernel
theorem dX9_init_4 : decode cX9_init 4 = .ok (.aload_n 0, 1) := by decide +kernel
theorem dX9_init_5 : decode cX9_init 5 = .ok (.bipush 56, 2) := by decide +kernel
theorem dX9_init_7 : decode cX9_init 7 = .ok (.newarray .int, 2) := by decide +kernel
theorem dX9_init_9 : decode cX9_init 9 = .ok (.putfield 9, 3) := by decide +kernel
theorem dX9_init_12 : decode cX9_init 12 = .ok (.aload_n 0, 1) := by decide +kernel
theorem dX9_init_13 : decode cX9_init 13 = .ok (.bipush 38, 2) := by decide +kernel
theorem dX9_init_15 : decode cX9_init 15 = .ok (.bipush 15, 2) := by decide +kernel
theorem dX9_init_17 : decode cX9_init 17 = .ok (.multianewarray 15 2, 4) := by decide +kernel
theorem dX9_init_21 : decode cX9_init 21 = .ok (.putfield 17, 3) := by decide +kernel
theorem dX9_init_24 : decode cX9_init 24 = .ok (.return_, 1) := by decide +kernel
theorem dX9_costOf_0 : decode cX9_costOf 0 = .ok (.iconst 1, 1) := by decide +kernel
theorem dX9_costOf_1 : decode cX9_costOf 1 = .ok (.iload_n 0, 1) := by decide +kernel
theorem dX9_costOf_2 : decode cX9_costOf 2 = .ok (.iconst 0, 1) := by decide +kernel
theorem dX9_costOf_3 : decode cX9_costOf 3 = .ok (.invokestatic 20, 3) := by decide +kernel
theorem dX9_costOf_6 : decode cX9_costOf 6 = .ok (.bipush 14, 2) := by decide +kernel
theorem dX9_costOf_8 : decode cX9_costOf 8 = .ok (.invokestatic 26, 3) := by decide +kernel
theorem dX9_costOf_11 : decode cX9_costOf 11 = .ok (.ishl, 1) := by decide +kernel
theorem dX9_costOf_12 : decode cX9_costOf 12 = .ok (.ireturn, 1) := by decide +kernel
theorem dX9_affords_0 : decode cX9_affords 0 = .ok (.aload_n 0, 1) := by decide +kernel
theorem dX9_affords_1 : decode cX9_affords 1 = .ok (.getfield 29, 3) := by decide +kernel
theorem dX9_affords_4 : decode cX9_affords 4 = .ok (.iload_n 1, 1) := by decide +kernel
theorem dX9_affords_5 : decode cX9_affords 5 = .ok (.iadd, 1) := by decide +kernel
theorem dX9_affords_6 : decode cX9_affords 6 = .ok (.ldc 33, 2) := by decide +kernel
theorem dX9_affords_8 : decode cX9_affords 8 = .ok (.if_icmp .gt 7, 3) := by decide +kernel
theorem dX9_affords_11 : decode cX9_affords 11 = .ok (.iconst 1, 1) := by decide +kernel
theorem dX9_affords_12 : decode cX9_affords 12 = .ok (.goto 4, 3) := by decide +kernel
theorem dX9_affords_15 : decode cX9_affords 15 = .ok (.iconst 0, 1) := by decide +kernel
theorem dX9_affords_16 : decode cX9_affords 16 = .ok (.ireturn, 1) := by decide +kernel
theorem dX9_makeBracket_0 : decode cX9_makeBracket 0 = .ok (.aload_n 0, 1) := by decide +kernel
theorem dX9_makeBracket_1 : decode cX9_makeBracket 1 = .ok (.aload_n 1, 1) := by decide +kernel
theorem dX9_makeBracket_2 : decode cX9_makeBracket 2 = .ok (.getfield 34, 3) := by decide +kernel
theorem dX9_makeBracket_5 : decode cX9_makeBracket 5 = .ok (.bipush 14, 2) := by decide +kernel
theorem dX9_makeBracket_7 : decode cX9_makeBracket 7 = .ok (.invokestatic 26, 3) := by decide +kernel
theorem dX9_makeBracket_10 : decode cX9_makeBracket 10 = .ok (.putfield 39, 3) := by decide +kernel
theorem dX9_makeBracket_13 : decode cX9_makeBracket 13 = .ok (.aload_n 0, 1) := by decide +kernel
theorem dX9_makeBracket_14 : decode cX9_makeBracket 14 = .ok (.dup, 1) := by decide +kernel
theorem dX9_makeBracket_15 : decode cX9_makeBracket 15 = .ok (.getfield 29, 3) := by decide +kernel
theorem dX9_makeBracket_18 : decode cX9_makeBracket 18 = .ok (.aload_n 0, 1) := by decide +kernel
theorem dX9_makeBracket_19 : decode cX9_makeBracket 19 = .ok (.getfield 39, 3) := by decide +kernel
theorem dX9_makeBracket_22 : decode cX9_makeBracket 22 = .ok (.invokestatic 40, 3) := by decide +kernel
theorem dX9_makeBracket_25 : decode cX9_makeBracket 25 = .ok (.iadd, 1) := by decide +kernel
theorem dX9_makeBracket_26 : decode cX9_makeBracket 26 = .ok (.putfield 29, 3) := by decide +kernel
theorem dX9_makeBracket_29 : decode cX9_makeBracket 29 = .ok (.iconst 2, 1) := by decide +kernel
theorem dX9_makeBracket_30 : decode cX9_makeBracket 30 = .ok (.aload_n 0, 1) := by decide +kernel
theorem dX9_makeBracket_31 : decode cX9_makeBracket 31 = .ok (.getfield 39, 3) := by decide +kernel
theorem dX9_makeBracket_34 : decode cX9_makeBracket 34 = .ok (.imul, 1) := by decide +kernel
theorem dX9_makeBracket_35 : decode cX9_makeBracket 35 = .ok (.aload_n 1, 1) := by decide +kernel
theorem dX9_makeBracket_36 : decode cX9_makeBracket 36 = .ok (.getfield 44, 3) := by decide +kernel
theorem dX9_makeBracket_39 : decode cX9_makeBracket 39 = .ok (.iadd, 1) := by decide +kernel
theorem dX9_makeBracket_40 : decode cX9_makeBracket 40 = .ok (.bipush 37, 2) := by decide +kernel
theorem dX9_makeBracket_42 : decode cX9_makeBracket 42 = .ok (.invokestatic 26, 3) := by decide +kernel
theorem dX9_makeBracket_45 : decode cX9_makeBracket 45 = .ok (.istore_n 3, 1) := by decide +kernel
theorem dX9_makeBracket_46 : decode cX9_makeBracket 46 = .ok (.iconst 0, 1) := by decide +kernel
theorem dX9_makeBracket_47 : decode cX9_makeBracket 47 = .ok (.istore 4, 2) := by decide +kernel
theorem dX9_makeBracket_49 : decode cX9_makeBracket 49 = .ok (.iload 4, 2) := by decide +kernel
theorem dX9_makeBracket_51 : decode cX9_makeBracket 51 = .ok (.iload_n 3, 1) := by decide +kernel
theorem dX9_makeBracket_52 : decode cX9_makeBracket 52 = .ok (.if_icmp .gt 20, 3) := by decide +kernel
theorem dX9_makeBracket_55 : decode cX9_makeBracket 55 = .ok (.aload_n 0, 1) := by decide +kernel
theorem dX9_makeBracket_56 : decode cX9_makeBracket 56 = .ok (.getfield 17, 3) := by decide +kernel
theorem dX9_makeBracket_59 : decode cX9_makeBracket 59 = .ok (.iload 4, 2) := by decide +kernel
theorem dX9_makeBracket_61 : decode cX9_makeBracket 61 = .ok (.aaload, 1) := by decide +kernel
theorem dX9_makeBracket_62 : decode cX9_makeBracket 62 = .ok (.iconst 0, 1) := by decide +kernel
theorem dX9_makeBracket_63 : decode cX9_makeBracket 63 = .ok (.invokestatic 47, 3) := by decide +kernel
theorem dX9_makeBracket_66 : decode cX9_makeBracket 66 = .ok (.iinc 4 1, 3) := by decide +kernel
theorem dX9_makeBracket_69 : decode cX9_makeBracket 69 = .ok (.goto (-20), 3) := by decide +kernel
theorem dX9_makeBracket_72 : decode cX9_makeBracket 72 = .ok (.aload_n 1, 1) := by decide +kernel
theorem dX9_makeBracket_73 : decode cX9_makeBracket 73 = .ok (.getfield 53, 3) := by decide +kernel
theorem dX9_makeBracket_76 : decode cX9_makeBracket 76 = .ok (.iconst 0, 1) := by decide +kernel
theorem dX9_makeBracket_77 : decode cX9_makeBracket 77 = .ok (.aload_n 0, 1) := by decide +kernel
theorem dX9_makeBracket_78 : decode cX9_makeBracket 78 = .ok (.getfield 9, 3) := by decide +kernel
theorem dX9_makeBracket_81 : decode cX9_makeBracket 81 = .ok (.iconst 0, 1) := by decide +kernel
theorem dX9_makeBracket_82 : decode cX9_makeBracket 82 = .ok (.iconst 4, 1) := by decide +kernel
theorem dX9_makeBracket_83 : decode cX9_makeBracket 83 = .ok (.aload_n 0, 1) := by decide +kernel
theorem dX9_makeBracket_84 : decode cX9_makeBracket 84 = .ok (.getfield 39, 3) := by decide +kernel
theorem dX9_makeBracket_87 : decode cX9_makeBracket 87 = .ok (.imul, 1) := by decide +kernel
theorem dX9_makeBracket_88 : decode cX9_makeBracket 88 = .ok (.invokestatic 56, 3) := by decide +kernel
theorem dX9_makeBracket_91 : decode cX9_makeBracket 91 = .ok (.aload_n 0, 1) := by decide +kernel
theorem dX9_makeBracket_92 : decode cX9_makeBracket 92 = .ok (.iconst 0, 1) := by decide +kernel
theorem dX9_makeBracket_93 : decode cX9_makeBracket 93 = .ok (.iconst 0, 1) := by decide +kernel
theorem dX9_makeBracket_94 : decode cX9_makeBracket 94 = .ok (.aload_n 1, 1) := by decide +kernel
theorem dX9_makeBracket_95 : decode cX9_makeBracket 95 = .ok (.getfield 44, 3) := by decide +kernel
theorem dX9_makeBracket_98 : decode cX9_makeBracket 98 = .ok (.invokevirtual 62, 3) := by decide +kernel
theorem dX9_makeBracket_101 : decode cX9_makeBracket 101 = .ok (.aload_n 2, 1) := by decide +kernel
theorem dX9_makeBracket_102 : decode cX9_makeBracket 102 = .ok (.invokevirtual 66, 3) := by decide +kernel
theorem dX9_makeBracket_105 : decode cX9_makeBracket 105 = .ok (.iload_n 3, 1) := by decide +kernel
theorem dX9_makeBracket_106 : decode cX9_makeBracket 106 = .ok (.istore 4, 2) := by decide +kernel
theorem dX9_makeBracket_108 : decode cX9_makeBracket 108 = .ok (.iload 4, 2) := by decide +kernel
theorem dX9_makeBracket_110 : decode cX9_makeBracket 110 = .ok (.iconst 1, 1) := by decide +kernel
theorem dX9_makeBracket_111 : decode cX9_makeBracket 111 = .ok (.if_icmp .lt 55, 3) := by decide +kernel
theorem dX9_makeBracket_114 : decode cX9_makeBracket 114 = .ok (.aload_n 2, 1) := by decide +kernel
theorem dX9_makeBracket_115 : decode cX9_makeBracket 115 = .ok (.invokevirtual 71, 3) := by decide +kernel
theorem dX9_makeBracket_118 : decode cX9_makeBracket 118 = .ok (.iconst 0, 1) := by decide +kernel
theorem dX9_makeBracket_119 : decode cX9_makeBracket 119 = .ok (.istore 5, 2) := by decide +kernel
theorem dX9_makeBracket_121 : decode cX9_makeBracket 121 = .ok (.iload 5, 2) := by decide +kernel
theorem dX9_makeBracket_123 : decode cX9_makeBracket 123 = .ok (.aload_n 0, 1) := by decide +kernel
theorem dX9_makeBracket_124 : decode cX9_makeBracket 124 = .ok (.getfield 39, 3) := by decide +kernel
theorem dX9_makeBracket_127 : decode cX9_makeBracket 127 = .ok (.if_icmp .gt 33, 3) := by decide +kernel
theorem dX9_makeBracket_130 : decode cX9_makeBracket 130 = .ok (.aload_n 2, 1) := by decide +kernel
theorem dX9_makeBracket_131 : decode cX9_makeBracket 131 = .ok (.iconst 2, 1) := by decide +kernel
theorem dX9_makeBracket_132 : decode cX9_makeBracket 132 = .ok (.iload 5, 2) := by decide +kernel
theorem dX9_makeBracket_134 : decode cX9_makeBracket 134 = .ok (.imul, 1) := by decide +kernel
theorem dX9_makeBracket_135 : decode cX9_makeBracket 135 = .ok (.aload_n 0, 1) := by decide +kernel
theorem dX9_makeBracket_136 : decode cX9_makeBracket 136 = .ok (.getfield 39, 3) := by decide +kernel
theorem dX9_makeBracket_139 : decode cX9_makeBracket 139 = .ok (.isub, 1) := by decide +kernel
theorem dX9_makeBracket_140 : decode cX9_makeBracket 140 = .ok (.aload_n 0, 1) := by decide +kernel
theorem dX9_makeBracket_141 : decode cX9_makeBracket 141 = .ok (.getfield 17, 3) := by decide +kernel
theorem dX9_makeBracket_144 : decode cX9_makeBracket 144 = .ok (.iload 4, 2) := by decide +kernel
theorem dX9_makeBracket_146 : decode cX9_makeBracket 146 = .ok (.aaload, 1) := by decide +kernel
theorem dX9_makeBracket_147 : decode cX9_makeBracket 147 = .ok (.iload 5, 2) := by decide +kernel
theorem dX9_makeBracket_149 : decode cX9_makeBracket 149 = .ok (.iaload, 1) := by decide +kernel
theorem dX9_makeBracket_150 : decode cX9_makeBracket 150 = .ok (.i2l, 1) := by decide +kernel
theorem dX9_makeBracket_151 : decode cX9_makeBracket 151 = .ok (.invokevirtual 74, 3) := by decide +kernel
theorem dX9_makeBracket_154 : decode cX9_makeBracket 154 = .ok (.iinc 5 1, 3) := by decide +kernel
theorem dX9_makeBracket_157 : decode cX9_makeBracket 157 = .ok (.goto (-36), 3) := by decide +kernel
theorem dX9_makeBracket_160 : decode cX9_makeBracket 160 = .ok (.iinc 4 (-1), 3) := by decide +kernel
theorem dX9_makeBracket_163 : decode cX9_makeBracket 163 = .ok (.goto (-55), 3) := by decide +kernel
theorem dX9_makeBracket_166 : decode cX9_makeBracket 166 = .ok (.return_, 1) := by decide +kernel
theorem dX9_makePolynomial_0 : decode cX9_makePolynomial 0 = .ok (.aload_n 0, 1) := by decide +kernel
theorem dX9_makePolynomial_1 : decode cX9_makePolynomial 1 = .ok (.aload_n 1, 1) := by decide +kernel
theorem dX9_makePolynomial_2 : decode cX9_makePolynomial 2 = .ok (.aload_n 2, 1) := by decide +kernel
theorem dX9_makePolynomial_3 : decode cX9_makePolynomial 3 = .ok (.invokevirtual 78, 3) := by decide +kernel
theorem dX9_makePolynomial_6 : decode cX9_makePolynomial 6 = .ok (.aload_n 2, 1) := by decide +kernel
theorem dX9_makePolynomial_7 : decode cX9_makePolynomial 7 = .ok (.aload_n 1, 1) := by decide +kernel
theorem dX9_makePolynomial_8 : decode cX9_makePolynomial 8 = .ok (.getfield 82, 3) := by decide +kernel
theorem dX9_makePolynomial_11 : decode cX9_makePolynomial 11 = .ok (.invokevirtual 85, 3) := by decide +kernel
theorem dX9_makePolynomial_14 : decode cX9_makePolynomial 14 = .ok (.return_, 1) := by decide +kernel
theorem dX9_smoothFrom_0 : decode cX9_smoothFrom 0 = .ok (.iload_n 1, 1) := by decide +kernel
theorem dX9_smoothFrom_1 : decode cX9_smoothFrom 1 = .ok (.aload_n 0, 1) := by decide +kernel
theorem dX9_smoothFrom_2 : decode cX9_smoothFrom 2 = .ok (.getfield 39, 3) := by decide +kernel
theorem dX9_smoothFrom_5 : decode cX9_smoothFrom 5 = .ok (.if_icmp .lt 32, 3) := by decide +kernel
theorem dX9_smoothFrom_8 : decode cX9_smoothFrom 8 = .ok (.iload_n 3, 1) := by decide +kernel
theorem dX9_smoothFrom_9 : decode cX9_smoothFrom 9 = .ok (.ifCond .lt 27, 3) := by decide +kernel
theorem dX9_smoothFrom_12 : decode cX9_smoothFrom 12 = .ok (.iload_n 3, 1) := by decide +kernel
theorem dX9_smoothFrom_13 : decode cX9_smoothFrom 13 = .ok (.bipush 37, 2) := by decide +kernel
theorem dX9_smoothFrom_15 : decode cX9_smoothFrom 15 = .ok (.if_icmp .gt 21, 3) := by decide +kernel
theorem dX9_smoothFrom_18 : decode cX9_smoothFrom 18 = .ok (.iload_n 2, 1) := by decide +kernel
theorem dX9_smoothFrom_19 : decode cX9_smoothFrom 19 = .ok (.bipush 14, 2) := by decide +kernel
theorem dX9_smoothFrom_21 : decode cX9_smoothFrom 21 = .ok (.if_icmp .gt 15, 3) := by decide +kernel
theorem dX9_smoothFrom_24 : decode cX9_smoothFrom 24 = .ok (.aload_n 0, 1) := by decide +kernel
theorem dX9_smoothFrom_25 : decode cX9_smoothFrom 25 = .ok (.getfield 17, 3) := by decide +kernel
theorem dX9_smoothFrom_28 : decode cX9_smoothFrom 28 = .ok (.iload_n 3, 1) := by decide +kernel
theorem dX9_smoothFrom_29 : decode cX9_smoothFrom 29 = .ok (.aaload, 1) := by decide +kernel
theorem dX9_smoothFrom_30 : decode cX9_smoothFrom 30 = .ok (.iload_n 2, 1) := by decide +kernel
theorem dX9_smoothFrom_31 : decode cX9_smoothFrom 31 = .ok (.dup2, 1) := by decide +kernel
theorem dX9_smoothFrom_32 : decode cX9_smoothFrom 32 = .ok (.iaload, 1) := by decide +kernel
theorem dX9_smoothFrom_33 : decode cX9_smoothFrom 33 = .ok (.iconst 1, 1) := by decide +kernel
theorem dX9_smoothFrom_34 : decode cX9_smoothFrom 34 = .ok (.iadd, 1) := by decide +kernel
theorem dX9_smoothFrom_35 : decode cX9_smoothFrom 35 = .ok (.iastore, 1) := by decide +kernel
theorem dX9_smoothFrom_36 : decode cX9_smoothFrom 36 = .ok (.return_, 1) := by decide +kernel
theorem dX9_smoothFrom_37 : decode cX9_smoothFrom 37 = .ok (.iconst 4, 1) := by decide +kernel
theorem dX9_smoothFrom_38 : decode cX9_smoothFrom 38 = .ok (.iload_n 1, 1) := by decide +kernel
theorem dX9_smoothFrom_39 : decode cX9_smoothFrom 39 = .ok (.imul, 1) := by decide +kernel
theorem dX9_smoothFrom_40 : decode cX9_smoothFrom 40 = .ok (.istore 4, 2) := by decide +kernel
theorem dX9_smoothFrom_42 : decode cX9_smoothFrom 42 = .ok (.aload_n 0, 1) := by decide +kernel
theorem dX9_smoothFrom_43 : decode cX9_smoothFrom 43 = .ok (.iload 4, 2) := by decide +kernel
theorem dX9_smoothFrom_45 : decode cX9_smoothFrom 45 = .ok (.iload 4, 2) := by decide +kernel
theorem dX9_smoothFrom_47 : decode cX9_smoothFrom 47 = .ok (.iconst 1, 1) := by decide +kernel
theorem dX9_smoothFrom_48 : decode cX9_smoothFrom 48 = .ok (.iadd, 1) := by decide +kernel
theorem dX9_smoothFrom_49 : decode cX9_smoothFrom 49 = .ok (.invokevirtual 89, 3) := by decide +kernel
theorem dX9_smoothFrom_52 : decode cX9_smoothFrom 52 = .ok (.aload_n 0, 1) := by decide +kernel
theorem dX9_smoothFrom_53 : decode cX9_smoothFrom 53 = .ok (.iload 4, 2) := by decide +kernel
theorem dX9_smoothFrom_55 : decode cX9_smoothFrom 55 = .ok (.iconst 2, 1) := by decide +kernel
theorem dX9_smoothFrom_56 : decode cX9_smoothFrom 56 = .ok (.iadd, 1) := by decide +kernel
theorem dX9_smoothFrom_57 : decode cX9_smoothFrom 57 = .ok (.iload 4, 2) := by decide +kernel
theorem dX9_smoothFrom_59 : decode cX9_smoothFrom 59 = .ok (.iconst 3, 1) := by decide +kernel
theorem dX9_smoothFrom_60 : decode cX9_smoothFrom 60 = .ok (.iadd, 1) := by decide +kernel
theorem dX9_smoothFrom_61 : decode cX9_smoothFrom 61 = .ok (.invokevirtual 89, 3) := by decide +kernel
theorem dX9_smoothFrom_64 : decode cX9_smoothFrom 64 = .ok (.iadd, 1) := by decide +kernel
theorem dX9_smoothFrom_65 : decode cX9_smoothFrom 65 = .ok (.istore 5, 2) := by decide +kernel
theorem dX9_smoothFrom_67 : decode cX9_smoothFrom 67 = .ok (.aload_n 0, 1) := by decide +kernel
theorem dX9_smoothFrom_68 : decode cX9_smoothFrom 68 = .ok (.iload_n 1, 1) := by decide +kernel
theorem dX9_smoothFrom_69 : decode cX9_smoothFrom 69 = .ok (.iconst 1, 1) := by decide +kernel
theorem dX9_smoothFrom_70 : decode cX9_smoothFrom 70 = .ok (.iadd, 1) := by decide +kernel
theorem dX9_smoothFrom_71 : decode cX9_smoothFrom 71 = .ok (.iload_n 2, 1) := by decide +kernel
theorem dX9_smoothFrom_72 : decode cX9_smoothFrom 72 = .ok (.iconst 1, 1) := by decide +kernel
theorem dX9_smoothFrom_73 : decode cX9_smoothFrom 73 = .ok (.iadd, 1) := by decide +kernel
theorem dX9_smoothFrom_74 : decode cX9_smoothFrom 74 = .ok (.iload_n 3, 1) := by decide +kernel
theorem dX9_smoothFrom_75 : decode cX9_smoothFrom 75 = .ok (.iload 5, 2) := by decide +kernel
theorem dX9_smoothFrom_77 : decode cX9_smoothFrom 77 = .ok (.iadd, 1) := by decide +kernel
theorem dX9_smoothFrom_78 : decode cX9_smoothFrom 78 = .ok (.invokevirtual 62, 3) := by decide +kernel
theorem dX9_smoothFrom_81 : decode cX9_smoothFrom 81 = .ok (.aload_n 0, 1) := by decide +kernel
theorem dX9_smoothFrom_82 : decode cX9_smoothFrom 82 = .ok (.iload 4, 2) := by decide +kernel
theorem dX9_smoothFrom_84 : decode cX9_smoothFrom 84 = .ok (.iconst 2, 1) := by decide +kernel
theorem dX9_smoothFrom_85 : decode cX9_smoothFrom 85 = .ok (.iadd, 1) := by decide +kernel
theorem dX9_smoothFrom_86 : decode cX9_smoothFrom 86 = .ok (.iload 4, 2) := by decide +kernel
theorem dX9_smoothFrom_88 : decode cX9_smoothFrom 88 = .ok (.iconst 3, 1) := by decide +kernel
theorem dX9_smoothFrom_89 : decode cX9_smoothFrom 89 = .ok (.iadd, 1) := by decide +kernel
theorem dX9_smoothFrom_90 : decode cX9_smoothFrom 90 = .ok (.invokevirtual 92, 3) := by decide +kernel
theorem dX9_smoothFrom_93 : decode cX9_smoothFrom 93 = .ok (.aload_n 0, 1) := by decide +kernel
theorem dX9_smoothFrom_94 : decode cX9_smoothFrom 94 = .ok (.iload 4, 2) := by decide +kernel
theorem dX9_smoothFrom_96 : decode cX9_smoothFrom 96 = .ok (.iload 4, 2) := by decide +kernel
theorem dX9_smoothFrom_98 : decode cX9_smoothFrom 98 = .ok (.iconst 1, 1) := by decide +kernel
theorem dX9_smoothFrom_99 : decode cX9_smoothFrom 99 = .ok (.iadd, 1) := by decide +kernel
theorem dX9_smoothFrom_100 : decode cX9_smoothFrom 100 = .ok (.invokevirtual 92, 3) := by decide +kernel
theorem dX9_smoothFrom_103 : decode cX9_smoothFrom 103 = .ok (.aload_n 0, 1) := by decide +kernel
theorem dX9_smoothFrom_104 : decode cX9_smoothFrom 104 = .ok (.iload 4, 2) := by decide +kernel
theorem dX9_smoothFrom_106 : decode cX9_smoothFrom 106 = .ok (.iload 4, 2) := by decide +kernel
theorem dX9_smoothFrom_108 : decode cX9_smoothFrom 108 = .ok (.iconst 3, 1) := by decide +kernel
theorem dX9_smoothFrom_109 : decode cX9_smoothFrom 109 = .ok (.iadd, 1) := by decide +kernel
theorem dX9_smoothFrom_110 : decode cX9_smoothFrom 110 = .ok (.invokevirtual 89, 3) := by decide +kernel
theorem dX9_smoothFrom_113 : decode cX9_smoothFrom 113 = .ok (.aload_n 0, 1) := by decide +kernel
theorem dX9_smoothFrom_114 : decode cX9_smoothFrom 114 = .ok (.iload 4, 2) := by decide +kernel
theorem dX9_smoothFrom_116 : decode cX9_smoothFrom 116 = .ok (.iconst 1, 1) := by decide +kernel
theorem dX9_smoothFrom_117 : decode cX9_smoothFrom 117 = .ok (.iadd, 1) := by decide +kernel
theorem dX9_smoothFrom_118 : decode cX9_smoothFrom 118 = .ok (.iload 4, 2) := by decide +kernel
theorem dX9_smoothFrom_120 : decode cX9_smoothFrom 120 = .ok (.iconst 2, 1) := by decide +kernel
theorem dX9_smoothFrom_121 : decode cX9_smoothFrom 121 = .ok (.iadd, 1) := by decide +kernel
theorem dX9_smoothFrom_122 : decode cX9_smoothFrom 122 = .ok (.invokevirtual 89, 3) := by decide +kernel
theorem dX9_smoothFrom_125 : decode cX9_smoothFrom 125 = .ok (.iadd, 1) := by decide +kernel
theorem dX9_smoothFrom_126 : decode cX9_smoothFrom 126 = .ok (.istore 5, 2) := by decide +kernel
theorem dX9_smoothFrom_128 : decode cX9_smoothFrom 128 = .ok (.aload_n 0, 1) := by decide +kernel
theorem dX9_smoothFrom_129 : decode cX9_smoothFrom 129 = .ok (.iload_n 1, 1) := by decide +kernel
theorem dX9_smoothFrom_130 : decode cX9_smoothFrom 130 = .ok (.iconst 1, 1) := by decide +kernel
theorem dX9_smoothFrom_131 : decode cX9_smoothFrom 131 = .ok (.iadd, 1) := by decide +kernel
theorem dX9_smoothFrom_132 : decode cX9_smoothFrom 132 = .ok (.iload_n 2, 1) := by decide +kernel
theorem dX9_smoothFrom_133 : decode cX9_smoothFrom 133 = .ok (.iload_n 3, 1) := by decide +kernel
theorem dX9_smoothFrom_134 : decode cX9_smoothFrom 134 = .ok (.iload 5, 2) := by decide +kernel
theorem dX9_smoothFrom_136 : decode cX9_smoothFrom 136 = .ok (.iadd, 1) := by decide +kernel
theorem dX9_smoothFrom_137 : decode cX9_smoothFrom 137 = .ok (.invokevirtual 62, 3) := by decide +kernel
theorem dX9_smoothFrom_140 : decode cX9_smoothFrom 140 = .ok (.aload_n 0, 1) := by decide +kernel
theorem dX9_smoothFrom_141 : decode cX9_smoothFrom 141 = .ok (.iload 4, 2) := by decide +kernel
theorem dX9_smoothFrom_143 : decode cX9_smoothFrom 143 = .ok (.iconst 1, 1) := by decide +kernel
theorem dX9_smoothFrom_144 : decode cX9_smoothFrom 144 = .ok (.iadd, 1) := by decide +kernel
theorem dX9_smoothFrom_145 : decode cX9_smoothFrom 145 = .ok (.iload 4, 2) := by decide +kernel
theorem dX9_smoothFrom_147 : decode cX9_smoothFrom 147 = .ok (.iconst 2, 1) := by decide +kernel
theorem dX9_smoothFrom_148 : decode cX9_smoothFrom 148 = .ok (.iadd, 1) := by decide +kernel
theorem dX9_smoothFrom_149 : decode cX9_smoothFrom 149 = .ok (.invokevirtual 92, 3) := by decide +kernel
theorem dX9_smoothFrom_152 : decode cX9_smoothFrom 152 = .ok (.aload_n 0, 1) := by decide +kernel
theorem dX9_smoothFrom_153 : decode cX9_smoothFrom 153 = .ok (.iload 4, 2) := by decide +kernel
theorem dX9_smoothFrom_155 : decode cX9_smoothFrom 155 = .ok (.iload 4, 2) := by decide +kernel
theorem dX9_smoothFrom_157 : decode cX9_smoothFrom 157 = .ok (.iconst 3, 1) := by decide +kernel
theorem dX9_smoothFrom_158 : decode cX9_smoothFrom 158 = .ok (.iadd, 1) := by decide +kernel
theorem dX9_smoothFrom_159 : decode cX9_smoothFrom 159 = .ok (.invokevirtual 92, 3) := by decide +kernel
theorem dX9_smoothFrom_162 : decode cX9_smoothFrom 162 = .ok (.return_, 1) := by decide +kernel
theorem dX9_tie_0 : decode cX9_tie 0 = .ok (.aload_n 0, 1) := by decide +kernel
theorem dX9_tie_1 : decode cX9_tie 1 = .ok (.getfield 9, 3) := by decide +kernel
theorem dX9_tie_4 : decode cX9_tie 4 = .ok (.iload_n 1, 1) := by decide +kernel
theorem dX9_tie_5 : decode cX9_tie 5 = .ok (.iaload, 1) := by decide +kernel
theorem dX9_tie_6 : decode cX9_tie 6 = .ok (.iload_n 2, 1) := by decide +kernel
theorem dX9_tie_7 : decode cX9_tie 7 = .ok (.if_icmp .ne 5, 3) := by decide +kernel
theorem dX9_tie_10 : decode cX9_tie 10 = .ok (.iconst 1, 1) := by decide +kernel
theorem dX9_tie_11 : decode cX9_tie 11 = .ok (.ireturn, 1) := by decide +kernel
theorem dX9_tie_12 : decode cX9_tie 12 = .ok (.aload_n 0, 1) := by decide +kernel
theorem dX9_tie_13 : decode cX9_tie 13 = .ok (.getfield 9, 3) := by decide +kernel
theorem dX9_tie_16 : decode cX9_tie 16 = .ok (.aload_n 0, 1) := by decide +kernel
theorem dX9_tie_17 : decode cX9_tie 17 = .ok (.getfield 9, 3) := by decide +kernel
theorem dX9_tie_20 : decode cX9_tie 20 = .ok (.iload_n 1, 1) := by decide +kernel
theorem dX9_tie_21 : decode cX9_tie 21 = .ok (.iaload, 1) := by decide +kernel
theorem dX9_tie_22 : decode cX9_tie 22 = .ok (.aload_n 0, 1) := by decide +kernel
theorem dX9_tie_23 : decode cX9_tie 23 = .ok (.getfield 9, 3) := by decide +kernel
theorem dX9_tie_26 : decode cX9_tie 26 = .ok (.iload_n 2, 1) := by decide +kernel
theorem dX9_tie_27 : decode cX9_tie 27 = .ok (.iaload, 1) := by decide +kernel
theorem dX9_tie_28 : decode cX9_tie 28 = .ok (.iastore, 1) := by decide +kernel
theorem dX9_tie_29 : decode cX9_tie 29 = .ok (.aload_n 0, 1) := by decide +kernel
theorem dX9_tie_30 : decode cX9_tie 30 = .ok (.getfield 9, 3) := by decide +kernel
theorem dX9_tie_33 : decode cX9_tie 33 = .ok (.aload_n 0, 1) := by decide +kernel
theorem dX9_tie_34 : decode cX9_tie 34 = .ok (.getfield 9, 3) := by decide +kernel
theorem dX9_tie_37 : decode cX9_tie 37 = .ok (.iload_n 2, 1) := by decide +kernel
theorem dX9_tie_38 : decode cX9_tie 38 = .ok (.iaload, 1) := by decide +kernel
theorem dX9_tie_39 : decode cX9_tie 39 = .ok (.aload_n 0, 1) := by decide +kernel
theorem dX9_tie_40 : decode cX9_tie 40 = .ok (.getfield 9, 3) := by decide +kernel
theorem dX9_tie_43 : decode cX9_tie 43 = .ok (.iload_n 1, 1) := by decide +kernel
theorem dX9_tie_44 : decode cX9_tie 44 = .ok (.iaload, 1) := by decide +kernel
theorem dX9_tie_45 : decode cX9_tie 45 = .ok (.iastore, 1) := by decide +kernel
theorem dX9_tie_46 : decode cX9_tie 46 = .ok (.iconst 0, 1) := by decide +kernel
theorem dX9_tie_47 : decode cX9_tie 47 = .ok (.ireturn, 1) := by decide +kernel
theorem dX9_untie_0 : decode cX9_untie 0 = .ok (.aload_n 0, 1) := by decide +kernel
theorem dX9_untie_1 : decode cX9_untie 1 = .ok (.getfield 9, 3) := by decide +kernel
theorem dX9_untie_4 : decode cX9_untie 4 = .ok (.iload_n 1, 1) := by decide +kernel
theorem dX9_untie_5 : decode cX9_untie 5 = .ok (.iaload, 1) := by decide +kernel
theorem dX9_untie_6 : decode cX9_untie 6 = .ok (.iload_n 2, 1) := by decide +kernel
theorem dX9_untie_7 : decode cX9_untie 7 = .ok (.if_icmp .eq 27, 3) := by decide +kernel
theorem dX9_untie_10 : decode cX9_untie 10 = .ok (.aload_n 0, 1) := by decide +kernel
theorem dX9_untie_11 : decode cX9_untie 11 = .ok (.getfield 9, 3) := by decide +kernel
theorem dX9_untie_14 : decode cX9_untie 14 = .ok (.aload_n 0, 1) := by decide +kernel
theorem dX9_untie_15 : decode cX9_untie 15 = .ok (.getfield 9, 3) := by decide +kernel
theorem dX9_untie_18 : decode cX9_untie 18 = .ok (.iload_n 1, 1) := by decide +kernel
theorem dX9_untie_19 : decode cX9_untie 19 = .ok (.iaload, 1) := by decide +kernel
theorem dX9_untie_20 : decode cX9_untie 20 = .ok (.iload_n 1, 1) := by decide +kernel
theorem dX9_untie_21 : decode cX9_untie 21 = .ok (.iastore, 1) := by decide +kernel
theorem dX9_untie_22 : decode cX9_untie 22 = .ok (.aload_n 0, 1) := by decide +kernel
theorem dX9_untie_23 : decode cX9_untie 23 = .ok (.getfield 9, 3) := by decide +kernel
theorem dX9_untie_26 : decode cX9_untie 26 = .ok (.aload_n 0, 1) := by decide +kernel
theorem dX9_untie_27 : decode cX9_untie 27 = .ok (.getfield 9, 3) := by decide +kernel
theorem dX9_untie_30 : decode cX9_untie 30 = .ok (.iload_n 2, 1) := by decide +kernel
theorem dX9_untie_31 : decode cX9_untie 31 = .ok (.iaload, 1) := by decide +kernel
theorem dX9_untie_32 : decode cX9_untie 32 = .ok (.iload_n 2, 1) := by decide +kernel
theorem dX9_untie_33 : decode cX9_untie 33 = .ok (.iastore, 1) := by decide +kernel
theorem dX9_untie_34 : decode cX9_untie 34 = .ok (.return_, 1) := by decide +kernel
theorem dX10_init_0 : decode cX10_init 0 = .ok (.aload_n 0, 1) := by decide +kernel
theorem dX10_init_1 : decode cX10_init 1 = .ok (.invokespecial 3, 3) := by decide +kernel
theorem dX10_init_4 : decode cX10_init 4 = .ok (.aload_n 0, 1) := by decide +kernel
theorem dX10_init_5 : decode cX10_init 5 = .ok (.bipush 48, 2) := by decide +kernel
theorem dX10_init_7 : decode cX10_init 7 = .ok (.newarray .int, 2) := by decide +kernel
theorem dX10_init_9 : decode cX10_init 9 = .ok (.putfield 11, 3) := by decide +kernel
theorem dX10_init_12 : decode cX10_init 12 = .ok (.aload_n 0, 1) := by decide +kernel
theorem dX10_init_13 : decode cX10_init 13 = .ok (.bipush 48, 2) := by decide +kernel
theorem dX10_init_15 : decode cX10_init 15 = .ok (.newarray .int, 2) := by decide +kernel
theorem dX10_init_17 : decode cX10_init 17 = .ok (.putfield 15, 3) := by decide +kernel
theorem dX10_init_20 : decode cX10_init 20 = .ok (.return_, 1) := by decide +kernel
theorem dX10_hold_0 : decode cX10_hold 0 = .ok (.aload_n 0, 1) := by decide +kernel
theorem dX10_hold_1 : decode cX10_hold 1 = .ok (.aload_n 1, 1) := by decide +kernel
theorem dX10_hold_2 : decode cX10_hold 2 = .ok (.getfield 18, 3) := by decide +kernel
theorem dX10_hold_5 : decode cX10_hold 5 = .ok (.bipush 12, 2) := by decide +kernel
theorem dX10_hold_7 : decode cX10_hold 7 = .ok (.invokestatic 24, 3) := by decide +kernel
theorem dX10_hold_10 : decode cX10_hold 10 = .ok (.putfield 30, 3) := by decide +kernel
theorem dX10_hold_13 : decode cX10_hold 13 = .ok (.aload_n 0, 1) := by decide +kernel
theorem dX10_hold_14 : decode cX10_hold 14 = .ok (.aload_n 1, 1) := by decide +kernel
theorem dX10_hold_15 : decode cX10_hold 15 = .ok (.getfield 31, 3) := by decide +kernel
theorem dX10_hold_18 : decode cX10_hold 18 = .ok (.putfield 34, 3) := by decide +kernel
theorem dX10_hold_21 : decode cX10_hold 21 = .ok (.aload_n 0, 1) := by decide +kernel
theorem dX10_hold_22 : decode cX10_hold 22 = .ok (.aload_n 2, 1) := by decide +kernel
theorem dX10_hold_23 : decode cX10_hold 23 = .ok (.invokevirtual 35, 3) := by decide +kernel
theorem dX10_hold_26 : decode cX10_hold 26 = .ok (.putfield 41, 3) := by decide +kernel
theorem dX10_hold_29 : decode cX10_hold 29 = .ok (.aload_n 1, 1) := by decide +kernel
theorem dX10_hold_30 : decode cX10_hold 30 = .ok (.getfield 44, 3) := by decide +kernel
theorem dX10_hold_33 : decode cX10_hold 33 = .ok (.iconst 0, 1) := by decide +kernel
theorem dX10_hold_34 : decode cX10_hold 34 = .ok (.aload_n 0, 1) := by decide +kernel
theorem dX10_hold_35 : decode cX10_hold 35 = .ok (.getfield 11, 3) := by decide +kernel
theorem dX10_hold_38 : decode cX10_hold 38 = .ok (.iconst 0, 1) := by decide +kernel
theorem dX10_hold_39 : decode cX10_hold 39 = .ok (.iconst 4, 1) := by decide +kernel
theorem dX10_hold_40 : decode cX10_hold 40 = .ok (.aload_n 0, 1) := by decide +kernel
theorem dX10_hold_41 : decode cX10_hold 41 = .ok (.getfield 30, 3) := by decide +kernel
theorem dX10_hold_44 : decode cX10_hold 44 = .ok (.imul, 1) := by decide +kernel
theorem dX10_hold_45 : decode cX10_hold 45 = .ok (.invokestatic 45, 3) := by decide +kernel
theorem dX10_hold_48 : decode cX10_hold 48 = .ok (.aload_n 2, 1) := by decide +kernel
theorem dX10_hold_49 : decode cX10_hold 49 = .ok (.getfield 51, 3) := by decide +kernel
theorem dX10_hold_52 : decode cX10_hold 52 = .ok (.iconst 0, 1) := by decide +kernel
theorem dX10_hold_53 : decode cX10_hold 53 = .ok (.aload_n 0, 1) := by decide +kernel
theorem dX10_hold_54 : decode cX10_hold 54 = .ok (.getfield 15, 3) := by decide +kernel
theorem dX10_hold_57 : decode cX10_hold 57 = .ok (.iconst 0, 1) := by decide +kernel
theorem dX10_hold_58 : decode cX10_hold 58 = .ok (.iconst 4, 1) := by decide +kernel
theorem dX10_hold_59 : decode cX10_hold 59 = .ok (.aload_n 0, 1) := by decide +kernel
theorem dX10_hold_60 : decode cX10_hold 60 = .ok (.getfield 30, 3) := by decide +kernel
theorem dX10_hold_63 : decode cX10_hold 63 = .ok (.imul, 1) := by decide +kernel
theorem dX10_hold_64 : decode cX10_hold 64 = .ok (.invokestatic 45, 3) := by decide +kernel
theorem dX10_hold_67 : decode cX10_hold 67 = .ok (.return_, 1) := by decide +kernel
theorem dX10_pourInto_0 : decode cX10_pourInto 0 = .ok (.aload_n 1, 1) := by decide +kernel
theorem dX10_pourInto_1 : decode cX10_pourInto 1 = .ok (.invokevirtual 54, 3) := by decide +kernel
theorem dX10_pourInto_4 : decode cX10_pourInto 4 = .ok (.aload_n 1, 1) := by decide +kernel
theorem dX10_pourInto_5 : decode cX10_pourInto 5 = .ok (.aload_n 0, 1) := by decide +kernel
theorem dX10_pourInto_6 : decode cX10_pourInto 6 = .ok (.getfield 34, 3) := by decide +kernel
theorem dX10_pourInto_9 : decode cX10_pourInto 9 = .ok (.putfield 31, 3) := by decide +kernel
theorem dX10_pourInto_12 : decode cX10_pourInto 12 = .ok (.iconst 0, 1) := by decide +kernel
theorem dX10_pourInto_13 : decode cX10_pourInto 13 = .ok (.istore_n 2, 1) := by decide +kernel
theorem dX10_pourInto_14 : decode cX10_pourInto 14 = .ok (.iload_n 2, 1) := by decide +kernel
theorem dX10_pourInto_15 : decode cX10_pourInto 15 = .ok (.aload_n 0, 1) := by decide +kernel
theorem dX10_pourInto_16 : decode cX10_pourInto 16 = .ok (.getfield 30, 3) := by decide +kernel
theorem dX10_pourInto_19 : decode cX10_pourInto 19 = .ok (.if_icmp .ge 51, 3) := by decide +kernel
theorem dX10_pourInto_22 : decode cX10_pourInto 22 = .ok (.aload_n 1, 1) := by decide +kernel
theorem dX10_pourInto_23 : decode cX10_pourInto 23 = .ok (.aload_n 0, 1) := by decide +kernel
theorem dX10_pourInto_24 : decode cX10_pourInto 24 = .ok (.getfield 11, 3) := by decide +kernel
theorem dX10_pourInto_27 : decode cX10_pourInto 27 = .ok (.iconst 4, 1) := by decide +kernel
theorem dX10_pourInto_28 : decode cX10_pourInto 28 = .ok (.iload_n 2, 1) := by decide +kernel
theorem dX10_pourInto_29 : decode cX10_pourInto 29 = .ok (.imul, 1) := by decide +kernel
theorem dX10_pourInto_30 : decode cX10_pourInto 30 = .ok (.iaload, 1) := by decide +kernel
theorem dX10_pourInto_31 : decode cX10_pourInto 31 = .ok (.aload_n 0, 1) := by decide +kernel
theorem dX10_pourInto_32 : decode cX10_pourInto 32 = .ok (.getfield 11, 3) := by decide +kernel
theorem dX10_pourInto_35 : decode cX10_pourInto 35 = .ok (.iconst 4, 1) := by decide +kernel
theorem dX10_pourInto_36 : decode cX10_pourInto 36 = .ok (.iload_n 2, 1) := by decide +kernel
theorem dX10_pourInto_37 : decode cX10_pourInto 37 = .ok (.imul, 1) := by decide +kernel
theorem dX10_pourInto_38 : decode cX10_pourInto 38 = .ok (.iconst 1, 1) := by decide +kernel
theorem dX10_pourInto_39 : decode cX10_pourInto 39 = .ok (.iadd, 1) := by decide +kernel
theorem dX10_pourInto_40 : decode cX10_pourInto 40 = .ok (.iaload, 1) := by decide +kernel
theorem dX10_pourInto_41 : decode cX10_pourInto 41 = .ok (.aload_n 0, 1) := by decide +kernel
theorem dX10_pourInto_42 : decode cX10_pourInto 42 = .ok (.getfield 11, 3) := by decide +kernel
theorem dX10_pourInto_45 : decode cX10_pourInto 45 = .ok (.iconst 4, 1) := by decide +kernel
theorem dX10_pourInto_46 : decode cX10_pourInto 46 = .ok (.iload_n 2, 1) := by decide +kernel
theorem dX10_pourInto_47 : decode cX10_pourInto 47 = .ok (.imul, 1) := by decide +kernel
theorem dX10_pourInto_48 : decode cX10_pourInto 48 = .ok (.iconst 2, 1) := by decide +kernel
theorem dX10_pourInto_49 : decode cX10_pourInto 49 = .ok (.iadd, 1) := by decide +kernel
theorem dX10_pourInto_50 : decode cX10_pourInto 50 = .ok (.iaload, 1) := by decide +kernel
theorem dX10_pourInto_51 : decode cX10_pourInto 51 = .ok (.aload_n 0, 1) := by decide +kernel
theorem dX10_pourInto_52 : decode cX10_pourInto 52 = .ok (.getfield 11, 3) := by decide +kernel
theorem dX10_pourInto_55 : decode cX10_pourInto 55 = .ok (.iconst 4, 1) := by decide +kernel
theorem dX10_pourInto_56 : decode cX10_pourInto 56 = .ok (.iload_n 2, 1) := by decide +kernel
theorem dX10_pourInto_57 : decode cX10_pourInto 57 = .ok (.imul, 1) := by decide +kernel
theorem dX10_pourInto_58 : decode cX10_pourInto 58 = .ok (.iconst 3, 1) := by decide +kernel
theorem dX10_pourInto_59 : decode cX10_pourInto 59 = .ok (.iadd, 1) := by decide +kernel
theorem dX10_pourInto_60 : decode cX10_pourInto 60 = .ok (.iaload, 1) := by decide +kernel
theorem dX10_pourInto_61 : decode cX10_pourInto 61 = .ok (.invokevirtual 57, 3) := by decide +kernel
theorem dX10_pourInto_64 : decode cX10_pourInto 64 = .ok (.iinc 2 1, 3) := by decide +kernel
theorem dX10_pourInto_67 : decode cX10_pourInto 67 = .ok (.goto (-53), 3) := by decide +kernel
theorem dX10_pourInto_70 : decode cX10_pourInto 70 = .ok (.return_, 1) := by decide +kernel
theorem dX10_sharesMark_0 : decode cX10_sharesMark 0 = .ok (.aload_n 0, 1) := by decide +kernel
theorem dX10_sharesMark_1 : decode cX10_sharesMark 1 = .ok (.getfield 41, 3) := by decide +kernel
theorem dX10_sharesMark_4 : decode cX10_sharesMark 4 = .ok (.aload_n 1, 1) := by decide +kernel
theorem dX10_sharesMark_5 : decode cX10_sharesMark 5 = .ok (.getfield 41, 3) := by decide +kernel
theorem dX10_sharesMark_8 : decode cX10_sharesMark 8 = .ok (.if_icmp .ne 29, 3) := by decide +kernel
theorem dX10_sharesMark_11 : decode cX10_sharesMark 11 = .ok (.aload_n 0, 1) := by decide +kernel
theorem dX10_sharesMark_12 : decode cX10_sharesMark 12 = .ok (.getfield 30, 3) := by decide +kernel
theorem dX10_sharesMark_15 : decode cX10_sharesMark 15 = .ok (.aload_n 1, 1) := by decide +kernel
theorem dX10_sharesMark_16 : decode cX10_sharesMark 16 = .ok (.getfield 30, 3) := by decide +kernel
theorem dX10_sharesMark_19 : decode cX10_sharesMark 19 = .ok (.if_icmp .ne 18, 3) := by decide +kernel
theorem dX10_sharesMark_22 : decode cX10_sharesMark 22 = .ok (.aload_n 0, 1) := by decide +kernel
theorem dX10_sharesMark_23 : decode cX10_sharesMark 23 = .ok (.getfield 34, 3) := by decide +kernel
theorem dX10_sharesMark_26 : decode cX10_sharesMark 26 = .ok (.aload_n 1, 1) := by decide +kernel
theorem dX10_sharesMark_27 : decode cX10_sharesMark 27 = .ok (.getfield 34, 3) := by decide +kernel
theorem dX10_sharesMark_30 : decode cX10_sharesMark 30 = .ok (.if_icmp .ne 7, 3) := by decide +kernel
theorem dX10_sharesMark_33 : decode cX10_sharesMark 33 = .ok (.iconst 1, 1) := by decide +kernel
theorem dX10_sharesMark_34 : decode cX10_sharesMark 34 = .ok (.goto 4, 3) := by decide +kernel
theorem dX10_sharesMark_37 : decode cX10_sharesMark 37 = .ok (.iconst 0, 1) := by decide +kernel
theorem dX10_sharesMark_38 : decode cX10_sharesMark 38 = .ok (.ireturn, 1) := by decide +kernel
